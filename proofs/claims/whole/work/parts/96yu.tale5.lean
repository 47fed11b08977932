/-! ===== TALE as a call: ok_tale ===== -/
def drK (z_3 : Int) (M_2 : MM) : OR := (bif inB 0 1 then (sM (mU M_2 181 0 (w32 z_3)) fun M_4 => some (rI 0, M_4)) else none)
def drE (c_6 : Nat) (M_2 : MM) : OR := (bif Nat.beq c_6 13 then some (rI 1, M_2) else (bif Nat.beq c_6 17 then some (rI 2, M_2) else none))
theorem tape_TN {M N : MM} {n : Nat} (t3 : n ≤ 400) (t6 : ∀ j, j < n → 0 ≤ M 2 j ∧ M 2 j < 256 ∧ M 170 j = if M 2 j < 128 then M 2 j else M 2 j - 256) (h : N 170 = M 170) : TN (M 2) n (usN (keepW N) n) := ⟨rfl, t3, fun j hj => by rw [usN_ne (by decide), keep_ne (by decide), h]; exact (t6 j hj).2.2, fun j hj => ⟨(t6 j hj).1, (t6 j hj).2.1⟩⟩
theorem ok_tale : OpOK drv_tale mo_tale := by
  intro k M hk hI
  obtain ⟨C0, hC0, fC, hL, hJ⟩ := tale_start hI
  have hI' := hI
  obtain ⟨⟨n, t1, t2, t3, t4, t5, t6⟩, i2, i3, i4, i5, i6, i7, i8, i9, i10⟩ := hI'
  have hX : EXC M := ⟨i9.1, by omega⟩
  have hTC : TC (M 2) n C0 := ⟨by rw [fC 1 (by decide)]; exact t1, t3, fun j hj => by rw [fC 2 (by decide)], fun j hj => ⟨(t6 j hj).1, (t6 j hj).2.1⟩⟩
  have hDr : ∀ N : MM, N 166 = M 166 → DrT k C0 N := fun N h => by
    unfold DrT
    rw [h]
    exact ⟨hL, hJ, i2⟩
  have gh : gh_tale M = bI (tale_readText C0) fun z_9 M_8 => (bif cmpB .ne z_9 0 then (bif cmpB .lt (M_8 3 4) 12 then (sM (mU M_8 29 4 ((M_8 29 4) + 1)) fun M_10 => (bV (land_copyFrom 3 29 M_10) fun M_13 => (bV (jny_copyFrom 23 49 M_13) fun M_16 => (bV (gh_forgetActs M_16) fun M_19 => some (rI (M_19 3 4), M_19))))) else thx 17 M_8) else thx 13 M_8) := hC0 _
  have dr : drv_tale M = bH (gh_tale M) drK drE := rfl
  -- the class's text, once
  obtain ⟨zx, X, hXx, hM0⟩ := TxM_of (tale_text (T := M 2) (n := n) (k := k) (e := 0) (C0 := C0) (N0 := usN (keepW M) n) hTC (tape_TN t3 t6 rfl) (hDr _ (by rw [usN_ne (by decide), keep_ne (by decide)])))
  -- and beside any memory of the reference
  have both : ∀ N : MM, N 165 8 = (n : Int) → N 170 = M 170 → N 166 = M 166 → TxM n k C0 (usN (keepW N) n) zx X (readR 1 (nT (usN (keepW N) n) 0 0)) := fun N h8 h170 h166 => by
    obtain ⟨zx', X', e, r⟩ := TxM_of (tale_text (T := M 2) (n := n) (k := k) (e := 0) (C0 := C0) (N0 := usN (keepW N) n) hTC (tape_TN t3 t6 h170) (hDr _ (by rw [usN_ne (by decide), keep_ne (by decide)]; exact h166)))
    rw [hXx] at e
    injection e with e
    injection e with e1 e2
    injection e1 with e1
    injection e1 with e1
    injection e1 with e1
    subst e1
    subst e2
    exact r
  have xr : ∀ a, a ≠ 1 → (a < 29 ∨ 54 < a) → X a = M a := fun a h1 h2 => (hM0.1.2 a h1 h2).trans (fC a h2)
  rw [hXx, bI_I] at gh
  have x34 : X 3 4 = M 166 4 := by rw [xr 3 (by decide) (by decide)]; exact i3.1.2.2.2.2
  have hXX : EXC X := by
    unfold EXC
    rw [xr 999 (by decide) (by decide)]
    exact hX
  have w4 : 0 ≤ M 166 4 ∧ M 166 4 ≤ 12 := i2.1.2.2.2.2.1
  -- a failing call
  have fail : ∀ (c : Nat) (cc : Int), (cc = 1 ∨ cc = 2) → gh_tale M = thx c X → drE c = (fun M_2 => some (rI cc, M_2)) → (∀ N : MM, N 165 8 = (n : Int) → N 170 = M 170 → N 166 = M 166 → ∃ (N' : MM) (p e : Nat), FrN (usN (keepW N) n) N' ∧ mo_tale N = mo_tale_J90 (mU (mU (nT N' p e) 165 13 (X 1 2)) 165 0 cc)) → (-1 ≤ X 1 2 ∧ X 1 2 ≤ 400) → ∃ c z M1 M2, drv_tale M = some (rI c, M1) ∧ mo_tale M1 = some (rI z, M2) ∧ M2 165 0 = c ∧ I32 c ∧ (c = 0 → M2 181 0 = z ∧ I32 z) ∧ Inv (k + 1) M2 := by
    intro c cc hcc e1 e2 e3 hr
    have x999 : xM X = mU X 999 0 (X 999 0 + 1) := rfl
    have o1 : ∀ a, a ≠ 999 → (xM X) a = X a := fun a ha => by rw [x999, mU_ne ha]
    have o2 : (xM X) 999 0 = M 999 0 + 1 := by rw [x999, mU_eq, up_eq, xr 999 (by decide) (by decide)]
    obtain ⟨N', p, e, hF, hm⟩ := e3 (xM X) (by rw [o1 165 (by decide), xr 165 (by decide) (by decide)]; exact t2) (by rw [o1 170 (by decide), xr 170 (by decide) (by decide)]) (by rw [o1 166 (by decide), xr 166 (by decide) (by decide)])
    obtain ⟨M2, hM2, m0, m5, m8, m13, m166, mF⟩ := fail_mem (M1 := xM X) (N' := N') (n := n) (p := p) (e := e) (q := X 1 2) (c := cc) hF
    refine ⟨cc, 0, xM X, M2, ?_, ?_, m0, by rcases hcc with rfl | rfl <;> decide, fun h => absurd h (by omega), fail_inv hI (fun a h1 h2 h3 => (o1 a h2).trans (xr a h1 h3)) o2 (by rw [o1 1 (by decide)]; exact hM0.1.1) mF m166 m5 m8 (by rw [o1 1 (by decide)]; exact m13) (by rw [o1 1 (by decide)]; exact hr)⟩
    · rw [dr, e1, thx_v hXX, bH_X, e2]
    · rw [hm, J90_v, ← hM2]
  rcases hM0.2 with ⟨rfl, hb, -⟩ | ⟨rfl, q, p0, N0', hq, hqn, -⟩
  · rw [bq_ne (by decide) (by decide), if_neg (by decide), bq_lt (by omega) (by decide), x34] at gh
    -- what the reference does at a good text
    have ref : ∀ N : MM, N 165 8 = (n : Int) → N 170 = M 170 → N 166 = M 166 → ∃ (N' : MM) (e' : Nat), FrN (usN (keepW N) n) N' ∧ DrT k X N' ∧ mo_tale N = if M 166 4 = 12 then mo_tale_J90 (mU (mU (nT N' n e') 165 13 (-1)) 165 0 2) else some (rI (M 166 4 + 1), mU (mU (mU (nT N' n e') 165 13 (-1)) 166 4 (M 166 4 + 1)) 165 6 0) := fun N h8 h170 h166 => by
      rcases (both N h8 h170 h166).2 with ⟨-, -, N', e', j, y1, y2, y3, y4⟩ | ⟨x, -⟩
      · have f4 : (nT N' n e') 166 4 = M 166 4 := by rw [nT_ne (by decide), y3.2.2 4 (by decide) (by decide), usN_ne (by decide), keep_ne (by decide), h166]
        refine ⟨N', e', y3, y4, ?_⟩
        rw [tale_r h8 (tape_TN t3 t6 h170), y1, bI_I, bq_ge (by omega) (by decide), if_pos (by omega), J46_ok y2 (by rw [f4]; exact w4), f4]
      · exact absurd x (by decide)
    by_cases h4 : M 166 4 < 12
    · obtain ⟨X1, hX1⟩ : ∃ X1, X1 = mU X 29 4 (X 29 4 + 1) := ⟨_, rfl⟩
      have o1 : ∀ a, a ≠ 29 → X1 a = X a := fun a ha => by rw [hX1, mU_ne ha]
      obtain ⟨C1, hC1, cF, cS, c83, c0, cR⟩ := tale_keep (X := X1) (k := k)
      obtain ⟨M1, hM1⟩ : ∃ M1, M1 = mU C1 181 0 (w32 (C1 3 4)) := ⟨_, rfl⟩
      have m1 : ∀ a, a ≠ 181 → M1 a = C1 a := fun a ha => by rw [hM1, mU_ne ha]
      have m1s : M1 181 0 = w32 (C1 3 4) := by rw [hM1, mU_eq, up_eq]
      have m1F : ∀ a, a ≠ 0 → a ≠ 1 → a ≠ 83 → a ≠ 181 → (a < 3 ∨ 54 < a) → M1 a = M a := fun a h0 h1 h83 h181 h => by
        rw [m1 a h181, cF a h0 h83 (by omega), o1 a (by omega), xr a h1 (by omega)]
      obtain ⟨N', e', y3, ⟨d1, d2, d3⟩, y⟩ := ref M1 (by rw [m1F 165 (by decide) (by decide) (by decide) (by decide) (by decide)]; exact t2) (m1F 170 (by decide) (by decide) (by decide) (by decide) (by decide)) (m1F 166 (by decide) (by decide) (by decide) (by decide) (by decide))
      rw [if_neg (show ¬ M 166 4 = 12 by omega)] at y
      have n166 : ∀ j, 266 ≤ j ∨ (4 ≤ j ∧ j ≤ 9) → N' 166 j = M 166 j := fun j hj => by
        have : N' 166 j = usN (keepW M1) n 166 j := by
          rcases hj with h | h
          · exact y3.2.1 j h
          · exact y3.2.2 j h.1 h.2
        rw [this, usN_ne (by decide), keep_ne (by decide), m1F 166 (by decide) (by decide) (by decide) (by decide) (by decide)]
      have n4 := n166 4 (by decide)
      have nF : ∀ a, a ≠ 165 → a ≠ 166 → a ≠ 168 → N' a = M1 a := fun a h1 h2 h3 => by rw [y3.1 a h2, usN_ne h1, keep_ne h3]
      have n165 : ∀ j, j ≠ 0 → j ≠ 8 → j ≠ 9 → j ≠ 10 → j ≠ 15 → N' 165 j = M 165 j := fun j a b c d e => by
        rw [y3.1 165 (by decide), usN_j a b c d e, keep_ne (by decide), m1F 165 (by decide) (by decide) (by decide) (by decide) (by decide)]
      have n0 : N' 165 0 = 0 := by rw [y3.1 165 (by decide)]; rfl
      have n8 : N' 165 8 = 0 := by rw [y3.1 165 (by decide)]; rfl
      have x29 : X 29 4 = N' 166 4 := d1.1.2.2.2.2
      obtain ⟨w, hw⟩ : ∃ w, w = up (N' 166) 4 (N' 166 4 + 1) := ⟨_, rfl⟩
      have hWF : WF k w := by rw [hw]; exact (WF_4 d3 (by rw [n4]; exact h4)).1
      have hLw : LandR 29 w X1 := by rw [hw, hX1, x29]; exact La_4 d1
      have hJw : JnyR 49 w X1 := by rw [hw]; exact Jn_4 d2 (fun a h1 h2 => o1 a (by omega))
      obtain ⟨hL3, hJ23⟩ := cR hWF.1 hLw hJw
      have w4' : w 4 = M 166 4 + 1 := by rw [hw, up_eq, n4]
      have c34 : C1 3 4 = M 166 4 + 1 := hL3.1.2.2.2.2.trans w4'
      have wj : ∀ j, j ≠ 4 → w j = N' 166 j := fun j hj => by rw [hw, up_ne hj]
      obtain ⟨M2, hM2⟩ : ∃ M2, M2 = mU (mU (mU (nT N' n e') 165 13 (-1)) 166 4 (M 166 4 + 1)) 165 6 0 := ⟨_, rfl⟩
      have g166 : M2 166 = w := by rw [hM2, mU_ne (by decide), mU_eq, mU_ne (by decide), nT_ne (by decide), hw, n4]
      have gF : ∀ a, a ≠ 165 → a ≠ 166 → a ≠ 168 → M2 a = M1 a := fun a h1 h2 h3 => by rw [hM2, mU_ne h1, mU_ne h2, mU_ne h1, nT_ne h1, nF a h1 h2 h3]
      have gE : M2 165 = up (up (nT N' n e' 165) 13 (-1)) 6 0 := by rw [hM2, mU_eq, mU_ne (by decide), mU_eq]
      have g165 : ∀ j, j ≠ 13 → j ≠ 6 → j ≠ 9 → j ≠ 11 → M2 165 j = N' 165 j := fun j a b c d => by rw [gE, up_ne b, up_ne a, nT_j c d]
      have g13 : M2 165 13 = -1 := by rw [gE, up_ne (by decide), up_eq]
      have g6 : M2 165 6 = 0 := by rw [gE, up_eq]
      rw [← hM2] at y
      clear hM2 gE
      have gM : ∀ a, a ≠ 0 → a ≠ 1 → a ≠ 83 → a ≠ 181 → a ≠ 165 → a ≠ 166 → a ≠ 168 → (a < 3 ∨ 54 < a) → M2 a = M a := fun a h0 h1 h83 h181 h5 h6 h8 h => (gF a h5 h6 h8).trans (m1F a h0 h1 h83 h181 h)
      have gC : ∀ a, a ≠ 165 → a ≠ 166 → a ≠ 168 → a ≠ 181 → M2 a = C1 a := fun a h1 h2 h3 h4 => (gF a h1 h2 h3).trans (m1 a h4)
      have g0 : M2 0 = C1 0 := gC 0 (by decide) (by decide) (by decide) (by decide)
      have g83 : M2 83 = C1 83 := gC 83 (by decide) (by decide) (by decide) (by decide)
      have g1 : M2 1 = X 1 := (gC 1 (by decide) (by decide) (by decide) (by decide)).trans ((cF 1 (by decide) (by decide) (by decide)).trans (o1 1 (by decide)))
      have x0 : X1 0 = M 0 := (o1 0 (by decide)).trans (xr 0 (by decide) (by decide))
      have x83 : X1 83 = M 83 := (o1 83 (by decide)).trans (xr 83 (by decide) (by decide))
      have g018 : M2 0 18 = M 0 18 + 1 := by rw [g0, c0.1, x0]
      have g0j : ∀ j, j ≠ 18 → M2 0 j = M 0 j := fun j hj => by rw [g0, c0.2 j hj, x0]
      have eLaw : ∀ j, j < 4 → M2 (17 + j) = M (17 + j) := fun j hj => by
        rw [gC _ (by omega) (by omega) (by omega) (by omega), show 17 + j = 3 + (14 + j) by omega, cS _ (by omega) (by omega), o1 _ (by omega), xr _ (by omega) (by omega)]
      have i1w : I32 (M 166 4 + 1) := by omega
      have x999 : M2 999 = M 999 := gM 999 (by decide) (by decide) (by decide) (by decide) (by decide) (by decide) (by decide) (by decide)
      refine ⟨0, M 166 4 + 1, M1, M2, ?_, y, ?_, by decide, fun _ => ⟨?_, i1w⟩, ?_⟩
      · rw [dr, gh, if_pos h4, sM_eq, ← hX1, hC1, bH_I, hM1]
        rfl
      · rw [g165 0 (by decide) (by decide) (by decide) (by decide), n0]
      · rw [gF 181 (by decide) (by decide) (by decide), m1s, c34, wI i1w]
      · refine ⟨⟨0, by rw [g1]; exact hM0.1.1, by rw [g165 8 (by decide) (by decide) (by decide) (by decide), n8]; rfl, by decide, by rw [g1, hb, g13], by rw [g1, hb]; decide, fun j hj => absurd hj (by omega)⟩, by rw [g166]; exact WF_mono (Nat.le_succ k) hWF, by rw [g166]; exact LandR_fr (fun j hj => gC _ (by omega) (by omega) (by omega) (by omega)) hL3, by rw [g166]; exact JnyR_fr (fun j hj => gC _ (by omega) (by omega) (by omega) (by omega)) hJ23, by rw [g166]; exact LawR_cg (fun j hj => by rw [wj j (by omega), n166 j (by omega)]) (LawR_fr eLaw i5), ?_, ImgR_fr (by omega) (by rw [g165 5 (by decide) (by decide) (by decide) (by decide), n165 5 (by decide) (by decide) (by decide) (by decide) (by decide)]) (g0j 10 (by decide)) (gM 167 (by decide) (by decide) (by decide) (by decide) (by decide) (by decide) (by decide) (by decide)) (fun a h1 h2 => gM a (by omega) (by omega) (by omega) (by omega) (by omega) (by omega) (by omega) (by omega)) i7, ⟨by rw [g0j 17 (by decide)]; exact i8.1, fun h => ?_⟩, by rw [x999]; omega, by rw [g018]; omega⟩
        · obtain ⟨rem, nx, -, -, u3, -, u5, -⟩ := i6
          exact ⟨0, nx, g6, by rw [g83, c83.1]; rfl, by rw [g83, c83.2 1 (by decide), x83]; exact u3, by decide, u5, fun j hj => absurd hj (by omega)⟩
        · rw [g0j 17 (by decide)] at h
          have := (i8.2 h).1
          rw [g018, gM 1000 (by decide) (by decide) (by decide) (by decide) (by decide) (by decide) (by decide) (by decide)]
          exact ⟨⟨this.1, by omega⟩, fun g => absurd g (by omega)⟩
    · rw [if_neg h4] at gh
      refine fail 17 2 (Or.inr rfl) gh rfl (fun N h8 h170 h166 => ?_) (by rw [hb]; decide)
      obtain ⟨N', e', y3, -, y⟩ := ref N h8 h170 h166
      rw [if_pos (show M 166 4 = 12 by omega)] at y
      exact ⟨N', n, e', y3, by rw [y, hb]⟩
  · rw [bq_ne (by decide) (by decide), if_pos rfl] at gh
    refine fail 13 1 (Or.inl rfl) gh rfl (fun N h8 h170 h166 => ?_) (by rw [hq]; omega)
    rcases (both N h8 h170 h166).2 with ⟨x, -⟩ | ⟨-, q', p, N', y1, y2, y3, y4⟩
    · exact absurd x (by decide)
    · refine ⟨N', p, q', y4, ?_⟩
      rw [tale_r h8 (tape_TN t3 t6 h170), y3, bI_I, bq_ge (by decide) (by decide), if_neg (by decide), J46_bad, nT_11, y1]
