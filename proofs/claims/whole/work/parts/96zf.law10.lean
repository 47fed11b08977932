/-! ===== LAW as a call: ok_law ===== -/
def drF (c_6 : Nat) (M_2 : MM) : OR := (bif Nat.beq c_6 13 then some (rI 1, M_2) else none)
theorem ok_law : OpOK drv_law mo_law := by
  intro k M hk hI
  have hI' := hI
  obtain ⟨⟨n, t1, t2, t3, t4, t5, t6⟩, i2, i3, i4, i5, i6, i7, i8, i9, i10⟩ := hI'
  have hX : EXC M := ⟨i9.1, by omega⟩
  have hTC : TC (M 2) n M := ⟨t1, t3, fun j hj => rfl, fun j hj => ⟨(t6 j hj).1, (t6 j hj).2.1⟩⟩
  have hWk := WF_mono (Nat.le_succ k) i2
  have hO : LwOK (M 166) := LawR_ok i5
  have dr : drv_law M = bH (gh_law M) drK drF := rfl
  have gh : gh_law M = bI (lawr_readText M) fun z_3 M_2 => (bif cmpB .ne z_3 0 then (bV (law_copyFrom 17 43 M_2) fun M_5 => (bV (gh_forgetActs M_5) fun M_8 => some (rI (M_8 17 0), M_8))) else thx 13 M_2) := rfl
  obtain ⟨zx, X, hXx, hM0⟩ := LtM_of (law_text (T := M 2) (n := n) (e := 0) (C0 := M) (N0 := usN M n) hTC (tape_TU t3 t6 rfl) rfl)
  have both : ∀ N : MM, N 165 8 = (n : Int) → N 170 = M 170 → LtM n M (usN N n) zx X (readR 0 (nT (usN N n) 0 0)) := fun N h8 h170 => by
    obtain ⟨zx', X', e, r⟩ := LtM_of (law_text (T := M 2) (n := n) (e := 0) (C0 := M) (N0 := usN N n) hTC (tape_TU t3 t6 h170) rfl)
    rw [hXx] at e
    injection e with e
    injection e with e1 e2
    injection e1 with e1
    injection e1 with e1
    injection e1 with e1
    subst e1
    subst e2
    exact r
  have xr : ∀ a, a ≠ 1 → (a < 29 ∨ 54 < a) → X a = M a := fun a h1 h2 => hM0.1.2 a h1 h2
  rw [hXx, bI_I] at gh
  have hXX : EXC X := by
    unfold EXC
    rw [xr 999 (by decide) (by decide)]
    exact hX
  rcases hM0.2 with ⟨rfl, hb, -⟩ | ⟨rfl, q, p0, N0', hq, hqn, -⟩
  · rw [bq_ne (by decide) (by decide), if_neg (by decide)] at gh
    obtain ⟨Ma, e1, a1, a2, a3, a4, aF⟩ := law_copy_v (M := X) (a := 17) (b := 43) (by omega)
    obtain ⟨C1, hC⟩ : ∃ C1, C1 = mU (mU Ma 83 0 0) 0 18 (X 0 18 + 1) := ⟨_, rfl⟩
    have e4 : gh_forgetActs Ma = some (rV, C1) := by
      unfold gh_forgetActs
      rw [sM_eq, sM_eq, mU_ne (by decide), aF 0 (by decide), hC]
    rw [e1, bV_V, e4, bV_V] at gh
    have g : ∀ p, p ≠ 0 → p ≠ 83 → C1 p = Ma p := fun p h0 h1 => by rw [hC, mU_ne h0, mU_ne h1]
    have g83 : C1 83 = up (M 83) 0 0 := by rw [hC, mU_ne (by decide), mU_eq, aF 83 (by decide), xr 83 (by decide) (by decide)]
    have g0 : C1 0 = up (M 0) 18 (M 0 18 + 1) := by rw [hC, mU_eq, mU_ne (by decide), aF 0 (by decide), xr 0 (by decide) (by decide)]
    clear hC
    obtain ⟨M1, hM1⟩ : ∃ M1, M1 = mU C1 181 0 (w32 (C1 17 0)) := ⟨_, rfl⟩
    have m1 : ∀ a, a ≠ 181 → M1 a = C1 a := fun a ha => by rw [hM1, mU_ne ha]
    have m1s : M1 181 0 = w32 (C1 17 0) := by rw [hM1, mU_eq, up_eq]
    have m1F : ∀ a, a ≠ 0 → a ≠ 1 → a ≠ 83 → a ≠ 181 → (a < 17 ∨ (20 < a ∧ a < 29) ∨ 54 < a) → M1 a = M a := fun a h0 h1 h83 h181 h => by
      rw [m1 a h181, g a h0 h83, aF a (by omega), xr a h1 (by omega)]
    have r8 : M1 165 8 = (n : Int) := by rw [m1F 165 (by decide) (by decide) (by decide) (by decide) (by decide)]; exact t2
    have r170 : M1 170 = M 170 := m1F 170 (by decide) (by decide) (by decide) (by decide) (by decide)
    rcases (both M1 r8 r170).2 with ⟨-, -, N', e', j, s, y1, y2, ⟨f1, f2, f3⟩, y4, y5⟩ | ⟨x, -⟩
    · have hm : mo_law M1 = some (rI (j : Int), mU (mU (lawW (mU (nT N' n e') 165 13 (-1)) (j : Int)) 166 5 1) 165 6 0) := by
        rw [law_r r8 (tape_TU t3 t6 r170), y1, bI_I, bq_ge (by omega) (by decide), if_pos (by omega), J19_ok y2]
      obtain ⟨M2, hM2⟩ : ∃ M2, M2 = mU (mU (lawW (mU (nT N' n e') 165 13 (-1)) (j : Int)) 166 5 1) 165 6 0 := ⟨_, rfl⟩
      have n166 : ∀ i, i < 1115 → N' 166 i = M 166 i := fun i hi => by rw [f2 i hi, usN_ne (by decide), m1F 166 (by decide) (by decide) (by decide) (by decide) (by decide)]
      have n165 : ∀ i, i ≠ 0 → i ≠ 8 → i ≠ 9 → i ≠ 10 → i ≠ 15 → i ≠ 11 → i ≠ 12 → N' 165 i = M 165 i := fun i a b c d e g1 g2 => by
        rw [f3 i c g1 g2 e, usN_j a b c d e, m1F 165 (by decide) (by decide) (by decide) (by decide) (by decide)]
      have n0 : N' 165 0 = 0 := by rw [f3 0 (by decide) (by decide) (by decide) (by decide)]; rfl
      have n8 : N' 165 8 = 0 := by rw [f3 8 (by decide) (by decide) (by decide) (by decide)]; rfl
      have w2 : ∀ i, M2 166 i = if i = 5 then 1 else if 266 ≤ i ∧ i < 1115 then (if i = 266 then (j : Int) else N' 166 (849 + i)) else if i = 1115 then (j : Int) else N' 166 i := fun i => by
        have eX : ∀ c, (mU (mU (nT N' n e') 165 13 (-1)) 166 1115 (j : Int)) 166 c = if c = 1115 then (j : Int) else N' 166 c := fun c => by
          rw [mU_ap, if_pos rfl, mU_ne (by decide), nT_ne (by decide)]
        rw [hM2, mU_ne (by decide), mU_ap, if_pos rfl]
        by_cases h5 : i = 5
        · rw [if_pos h5, if_pos h5]
        · rw [if_neg h5, if_neg h5]
          unfold lawW
          rw [flM_ap, eX]
          by_cases hr : 266 ≤ i ∧ i < 1115
          · rw [if_pos (show 266 ≤ i ∧ i < 266 + 849 by omega), if_pos hr]
            by_cases h6 : i = 266
            · rw [if_pos h6, if_pos (by omega)]
            · rw [if_neg h6, if_neg (by omega), show 1115 + (i - 266) = 849 + i by omega]
          · rw [if_neg (show ¬ (266 ≤ i ∧ i < 266 + 849) by omega), if_neg hr, eX]
      have gF : ∀ a, a ≠ 165 → a ≠ 166 → M2 a = M1 a := fun a h1 h2 => by
        rw [hM2, mU_ne h1, mU_ne h2]
        unfold lawW
        rw [flM_ne h2, mU_ne h2, mU_ne h1, nT_ne h1, f1 a h1 h2, usN_ne h1]
      have gE : M2 165 = up (up (nT N' n e' 165) 13 (-1)) 6 0 := by
        rw [hM2, mU_eq, mU_ne (by decide)]
        unfold lawW
        rw [flM_ne (by decide), mU_ne (by decide), mU_eq]
      have g165 : ∀ i, i ≠ 13 → i ≠ 6 → i ≠ 9 → i ≠ 11 → M2 165 i = N' 165 i := fun i a b c d => by rw [gE, up_ne b, up_ne a, nT_j c d]
      have g13 : M2 165 13 = -1 := by rw [gE, up_ne (by decide), up_eq]
      have g6 : M2 165 6 = 0 := by rw [gE, up_eq]
      rw [← hM2] at hm
      clear hM2 gE
      have gM : ∀ a, a ≠ 0 → a ≠ 1 → a ≠ 83 → a ≠ 181 → a ≠ 165 → a ≠ 166 → (a < 17 ∨ (20 < a ∧ a < 29) ∨ 54 < a) → M2 a = M a := fun a h0 h1 h83 h181 h5 h6 h => (gF a h5 h6).trans (m1F a h0 h1 h83 h181 h)
      have gC : ∀ a, a ≠ 165 → a ≠ 166 → a ≠ 181 → M2 a = C1 a := fun a h1 h2 h4 => (gF a h1 h2).trans (m1 a h4)
      have g0' : M2 0 = up (M 0) 18 (M 0 18 + 1) := (gC 0 (by decide) (by decide) (by decide)).trans g0
      have g83' : M2 83 = up (M 83) 0 0 := (gC 83 (by decide) (by decide) (by decide)).trans g83
      have g1 : M2 1 = X 1 := (gC 1 (by decide) (by decide) (by decide)).trans ((g 1 (by decide) (by decide)).trans (aF 1 (by decide)))
      have g018 : M2 0 18 = M 0 18 + 1 := by rw [g0', up_eq]
      have g0j : ∀ i, i ≠ 18 → M2 0 i = M 0 i := fun i hi => by rw [g0', up_ne hi]
      have gL : ∀ a, 17 ≤ a → a ≤ 20 → M2 a = Ma a := fun a h1 h2 => (gC a (by omega) (by omega) (by omega)).trans (g a (by omega) (by omega))
      have c170 : C1 17 0 = (j : Int) := by rw [g 17 (by decide) (by decide), a1]; exact y4.1
      have x999 : M2 999 = M 999 := gM 999 (by decide) (by decide) (by decide) (by decide) (by decide) (by decide) (by decide)
      have wu : ∀ i, i < 266 → M2 166 i = up (M 166) 5 1 i := fun i hi => by
        rw [w2]
        by_cases h5 : i = 5
        · rw [if_pos h5, h5, up_eq]
        · rw [if_neg h5, if_neg (by omega), if_neg (by omega), up_ne h5, n166 i (by omega)]
      have hW5 := (WF_5 hWk).1
      refine ⟨0, (j : Int), M1, M2, ?_, hm, ?_, by decide, fun _ => ⟨?_, by omega⟩, ?_⟩
      · rw [dr, gh, bH_I, hM1]
        rfl
      · rw [g165 0 (by decide) (by decide) (by decide) (by decide), n0]
      · rw [gF 181 (by decide) (by decide), m1s, c170, wI (by omega)]
      · refine ⟨⟨0, by rw [g1]; exact hM0.1.1, by rw [g165 8 (by decide) (by decide) (by decide) (by decide), n8]; rfl, by decide, by rw [g1, hb, g13], by rw [g1, hb]; decide, fun i hi => absurd hi (by omega)⟩, WF_cg wu hW5, LandR_cg hW5.1 wu (LandR_fr (fun i hi => gM _ (by omega) (by omega) (by omega) (by omega) (by omega) (by omega) (by omega)) (La_5 i3)), JnyR_cg hW5.1 wu (JnyR_fr (fun i hi => gM _ (by omega) (by omega) (by omega) (by omega) (by omega) (by omega) (by omega)) (Jn_5 i4 (fun _ _ _ => rfl))), ?_, ?_, ImgR_fr (by omega) (by rw [g165 5 (by decide) (by decide) (by decide) (by decide), n165 5 (by decide) (by decide) (by decide) (by decide) (by decide) (by decide) (by decide)]) (g0j 10 (by decide)) (gM 167 (by decide) (by decide) (by decide) (by decide) (by decide) (by decide) (by decide)) (fun a h1 h2 => gM a (by omega) (by omega) (by omega) (by omega) (by omega) (by omega) (by omega)) i7, ⟨by rw [g0j 17 (by decide)]; exact i8.1, fun h => ?_⟩, by rw [x999]; omega, by rw [g018]; omega⟩
        · refine law_copied y4 y2 (by omega) (by rw [w2, if_pos rfl]) (by rw [w2, if_neg (by decide), if_pos (by decide), if_pos rfl]) (fun i h1 h2 => by rw [w2, if_neg (by omega), if_pos (by omega), if_neg (by omega)]) (by rw [gL 17 (by decide) (by decide)]; exact a1) (fun i hi => by rw [gL 18 (by decide) (by decide), gL 19 (by decide) (by decide)]; exact a3 i hi) (fun i hi => by rw [gL 20 (by decide) (by decide)]; exact a4 i hi)
        · obtain ⟨rem, nx, -, -, u3, -, u5, -⟩ := i6
          exact ⟨0, nx, g6, by rw [g83', up_eq]; rfl, by rw [g83', up_ne (by decide)]; exact u3, by decide, u5, fun i hi => absurd hi (by omega)⟩
        · rw [g0j 17 (by decide)] at h
          have := (i8.2 h).1
          rw [g018, gM 1000 (by decide) (by decide) (by decide) (by decide) (by decide) (by decide) (by decide)]
          exact ⟨⟨this.1, by omega⟩, fun g => absurd g (by omega)⟩
    · exact absurd x (by decide)
  · rw [bq_ne (by decide) (by decide), if_pos rfl] at gh
    have x999 : xM X = mU X 999 0 (X 999 0 + 1) := rfl
    have o1 : ∀ a, a ≠ 999 → (xM X) a = X a := fun a ha => by rw [x999, mU_ne ha]
    have o2 : (xM X) 999 0 = M 999 0 + 1 := by rw [x999, mU_eq, up_eq, xr 999 (by decide) (by decide)]
    have oM : ∀ a, a ≠ 999 → a ≠ 1 → (a < 29 ∨ 54 < a) → (xM X) a = M a := fun a h1 h2 h3 => (o1 a h1).trans (xr a h2 h3)
    have r8 : (xM X) 165 8 = (n : Int) := by rw [oM 165 (by decide) (by decide) (by decide)]; exact t2
    have r170 : (xM X) 170 = M 170 := oM 170 (by decide) (by decide) (by decide)
    rcases (both (xM X) r8 r170).2 with ⟨x, -⟩ | ⟨-, q', p, N', y1, y2, y3, ⟨f1, f2, f3⟩⟩
    · exact absurd x (by decide)
    · obtain ⟨M2, hM2⟩ : ∃ M2, M2 = mU (mU (nT N' p q') 165 13 (q' : Int)) 165 0 1 := ⟨_, rfl⟩
      have hm : mo_law (xM X) = some (rI 0, M2) := by
        rw [law_r r8 (tape_TU t3 t6 r170), y3, bI_I, bq_ge (by decide) (by decide), if_neg (by decide), J19_bad, nT_11, hM2]
      have w2 : ∀ i, i < 1115 → M2 166 i = M 166 i := fun i hi => by
        rw [hM2, mU_ne (by decide), mU_ne (by decide), nT_ne (by decide), f2 i hi, usN_ne (by decide), oM 166 (by decide) (by decide) (by decide)]
      have gF : ∀ a, a ≠ 165 → a ≠ 166 → M2 a = (xM X) a := fun a h1 h2 => by rw [hM2, mU_ne h1, mU_ne h1, nT_ne h1, f1 a h1 h2, usN_ne h1]
      have gE : M2 165 = up (up (nT N' p q' 165) 13 (q' : Int)) 0 1 := by rw [hM2, mU_eq, mU_eq]
      have g165 : ∀ i, i ≠ 13 → i ≠ 0 → i ≠ 8 → i ≠ 9 → i ≠ 10 → i ≠ 11 → i ≠ 12 → i ≠ 15 → M2 165 i = M 165 i := fun i a b c d e f g1 g2 => by
        rw [gE, up_ne b, up_ne a, nT_j d f, f3 i d f g1 g2, usN_j b c d e g2, oM 165 (by decide) (by decide) (by decide)]
      have g8 : M2 165 8 = 0 := by rw [gE, up_ne (by decide), up_ne (by decide), nT_j (by decide) (by decide), f3 8 (by decide) (by decide) (by decide) (by decide)]; rfl
      have g13 : M2 165 13 = (q' : Int) := by rw [gE, up_ne (by decide), up_eq]
      have g0 : M2 165 0 = 1 := by rw [gE, up_eq]
      clear hM2 gE
      have gM : ∀ a, a ≠ 999 → a ≠ 1 → a ≠ 165 → a ≠ 166 → (a < 29 ∨ 54 < a) → M2 a = M a := fun a h1 h2 h3 h4 h5 => (gF a h3 h4).trans (oM a h1 h2 h5)
      have g1 : M2 1 = X 1 := (gF 1 (by decide) (by decide)).trans (o1 1 (by decide))
      have e0 : M2 0 = M 0 := gM 0 (by decide) (by decide) (by decide) (by decide) (by decide)
      have x9 : M2 999 0 = M 999 0 + 1 := by rw [gF 999 (by decide) (by decide)]; exact o2
      have w26 : ∀ i, i < 266 → M2 166 i = M 166 i := fun i hi => w2 i (by omega)
      have h3' : ∀ i, i < 14 → M2 (3 + i) = M (3 + i) := fun i hi => gM _ (by omega) (by omega) (by omega) (by omega) (by omega)
      refine ⟨1, 0, xM X, M2, by rw [dr, gh, thx_v hXX, bH_X]; rfl, hm, g0, by decide, fun h => absurd h (by decide), ?_⟩
      refine ⟨⟨0, by rw [g1]; exact hM0.1.1, g8, by decide, by rw [g1, y1, g13], by rw [g1, hq]; omega, fun i hi => absurd hi (by omega)⟩, WF_cg w26 hWk, LandR_cg i2.1 w26 (LandR_fr h3' i3), JnyR_cg i2.1 w26 (JnyR_fr (fun i hi => gM _ (by omega) (by omega) (by omega) (by omega) (by omega)) i4), LawR_cg (fun i hi => w2 i (by omega)) (LawR_fr (fun i hi => gM _ (by omega) (by omega) (by omega) (by omega) (by omega)) i5), MemR_fr (by omega) (g165 6 (by decide) (by decide) (by decide) (by decide) (by decide) (by decide) (by decide) (by decide)) (fun a h1 h2 => gM a (by omega) (by omega) (by omega) (by omega) (by omega)) (gM 169 (by decide) (by decide) (by decide) (by decide) (by decide)) h3' (w2 5 (by decide)) i6, ImgR_fr (by omega) (g165 5 (by decide) (by decide) (by decide) (by decide) (by decide) (by decide) (by decide) (by decide)) (by rw [e0]) (gM 167 (by decide) (by decide) (by decide) (by decide) (by decide)) (fun a h1 h2 => gM a (by omega) (by omega) (by omega) (by omega) (by omega)) i7, ⟨by rw [e0]; exact i8.1, fun h => ?_⟩, by rw [x9]; omega, by rw [e0]; omega⟩
      rw [e0] at h
      have := i8.2 h
      rw [e0, gM 1000 (by decide) (by decide) (by decide) (by decide) (by decide)]
      exact ⟨this.1, fun g => Done_cg w2 i2.1 i2.2.2.2.1 hO (Done_fr (gM 1000 (by decide) (by decide) (by decide) (by decide) (by decide)) (gM 1001 (by decide) (by decide) (by decide) (by decide) (by decide)) (this.2 g))⟩
