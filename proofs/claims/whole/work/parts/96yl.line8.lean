/-! ===== THE TALE: a keeper in the draft ===== -/
section KeepL
variable {w : Nat → Int} {p k : Nat} {f : Nat → Int} {C : MM}
def kpW (w : Nat → Int) (p : Nat) (f : Nat → Int) : Nat → Int := blW w 0 (w 0) (10 + 8 * p) 7 f
theorem kpW_o {j : Nat} (h : j < 10 + 8 * p ∨ 10 + 8 * p + 7 ≤ j) : kpW w p f j = w j := by
  unfold kpW
  by_cases e : j = 0
  · subst e; exact blW_c
  · exact blW_o e h
theorem kpW_P {i j : Int} (hi : 0 ≤ i) (hne : i ≠ p) (hj : 0 ≤ j) (hj2 : j ≤ 7) : oP (kpW w p f) i j = oP w i j := kpW_o (by omega)
theorem kpW_7 : oP (kpW w p f) (p : Int) 7 = oP w (p : Int) 7 := kpW_o (by omega)
theorem kpW_n {j : Nat} (hj : j < 7) : oP (kpW w p f) (p : Int) (j : Int) = f j := by
  unfold oP kpW
  rw [show ((10 + 8 * (p : Int)) + (j : Int)).toNat = (10 + 8 * p) + j by omega]
  exact blW_i (by omega) hj
theorem kpW_T {i j : Int} (hp : p < 10) (hi : 0 ≤ i) (hj : 0 ≤ j) : oT (kpW w p f) i j = oT w i j := kpW_o (by omega)
theorem kpW_R {i j : Int} (hp : p < 10) (hi : 0 ≤ i) (hj : 0 ≤ j) : oR (kpW w p f) i j = oR w i j := kpW_o (by omega)
theorem kpW_B {i j : Int} (hp : p < 10) (hi : 0 ≤ i) (hj : 0 ≤ j) : oB (kpW w p f) i j = oB w i j := kpW_o (by omega)
theorem kpW_sm {j : Nat} (hj : j ≤ 9) : kpW w p f j = w j := kpW_o (by omega)
theorem kpW_hi {j : Nat} (hp : p < 10) (hj : 90 ≤ j) : kpW w p f j = w j := kpW_o (by omega)
theorem kpW_ns : oP (kpW w p f) (p : Int) 0 = f 0 ∧ oP (kpW w p f) (p : Int) 1 = f 1 ∧ oP (kpW w p f) (p : Int) 2 = f 2 ∧ oP (kpW w p f) (p : Int) 3 = f 3 ∧ oP (kpW w p f) (p : Int) 4 = f 4 ∧ oP (kpW w p f) (p : Int) 5 = f 5 ∧ oP (kpW w p f) (p : Int) 6 = f 6 := ⟨kpW_n (j := 0) (by decide), kpW_n (j := 1) (by decide), kpW_n (j := 2) (by decide), kpW_n (j := 3) (by decide), kpW_n (j := 4) (by decide), kpW_n (j := 5) (by decide), kpW_n (j := 6) (by decide)⟩
theorem kpW_pa (i : Nat) : paB (kpW w p f) i = paB w i := by
  unfold paB
  rw [kpW_sm (by decide)]
  by_cases e : i = p
  · rw [e, kpW_7]
  · rw [kpW_P (by omega) (by omega) (by decide) (by decide)]
theorem kpW_kp (h0 : (p : Int) < w 0) (f0 : f 0 = 1) (i : Nat) : kpB (kpW w p f) i = (kpB w i || decide (i = p)) := by
  unfold kpB
  rw [kpW_sm (by decide)]
  by_cases e : i = p
  · rw [e, kpW_ns.1, f0, decide_eq_true h0]; simp
  · rw [kpW_P (by omega) (by omega) (by decide) (by decide), decide_eq_false e, Bool.or_false]
theorem kpW_tk (h0 : (p : Int) < w 0) (t0 : oP w (p : Int) 5 = 0) (f5 : f 5 = 0 ∨ f 5 = 1) (i : Nat) : tkB (kpW w p f) i = (tkB w i || (decide (f 5 = 1) && decide (i = p))) := by
  unfold tkB
  rw [kpW_sm (by decide)]
  by_cases e : i = p
  · rw [e, kpW_ns.2.2.2.2.2.1, t0, decide_eq_true h0]; simp
  · rw [kpW_P (by omega) (by omega) (by decide) (by decide), decide_eq_false e, Bool.and_false, Bool.or_false]
theorem La_kp {C' : MM} (hL : LandR 29 w C) (h0 : (p : Int) < w 0) (hp : p < 10) (t0 : oP w (p : Int) 5 = 0) (f0 : f 0 = 1) (f5 : f 5 = 0 ∨ f 5 = 1) (g29 : ∀ j, j ≠ 5 → j ≠ 6 → C' 29 j = C 29 j) (g5 : C' 29 5 = ((bset 10 (fun i => kpB w i || decide (i = p)) : Nat) : Int)) (g6 : C' 29 6 = ((bset 10 (fun i => tkB w i || (decide (f 5 = 1) && decide (i = p))) : Nat) : Int)) (g : ∀ a, 35 ≤ a → a ≤ 42 → C' a = C a) (gs : ∀ i, i < 5 → ∀ j, C' (30 + i) j = if j = p then (if i = 0 then f 1 else if i = 1 then f 2 else if i = 2 then f 3 else if i = 3 then f 4 else f 6) else C (30 + i) j) : LandR 29 (kpW w p f) C' := by
  obtain ⟨⟨a0, a1, a2, a3, a4⟩, a5, a6, a7, a8, a9, a10⟩ := hL
  have sm : ∀ j, j ≤ 9 → kpW w p f j = w j := fun j a => kpW_sm a
  have s0 : ∀ j, C' 30 j = if j = p then f 1 else C 30 j := fun j => gs 0 (by decide) j
  have s1 : ∀ j, C' 31 j = if j = p then f 2 else C 31 j := fun j => gs 1 (by decide) j
  have s2 : ∀ j, C' 32 j = if j = p then f 3 else C 32 j := fun j => gs 2 (by decide) j
  have s3 : ∀ j, C' 33 j = if j = p then f 4 else C 33 j := fun j => gs 3 (by decide) j
  have s4 : ∀ j, C' 34 j = if j = p then f 6 else C 34 j := fun j => gs 4 (by decide) j
  refine ⟨⟨by rw [g29 0 (by decide) (by decide), sm 0 (by decide)]; exact a0, by rw [g29 1 (by decide) (by decide), sm 1 (by decide)]; exact a1, by rw [g29 2 (by decide) (by decide), sm 2 (by decide)]; exact a2, by rw [g29 3 (by decide) (by decide), sm 3 (by decide)]; exact a3, by rw [g29 4 (by decide) (by decide), sm 4 (by decide)]; exact a4⟩, by rw [g5, bset_cg (f := kpB (kpW w p f)) 10 (fun i _ => kpW_kp h0 f0 i)], by rw [g6, bset_cg (f := tkB (kpW w p f)) 10 (fun i _ => kpW_tk h0 t0 f5 i)], fun i hi hi2 hk => ?_, fun i hi hi2 => ?_, fun r hr hr2 => ?_, fun b hb hb2 => ?_⟩
  · rw [sm 0 (by decide)] at hi2
    show C' 30 i.toNat = _ ∧ C' 31 i.toNat = _ ∧ C' 32 i.toNat = _ ∧ C' 33 i.toNat = _ ∧ C' 34 i.toNat = _
    rw [s0, s1, s2, s3, s4]
    by_cases e : i = p
    · subst e
      obtain ⟨n0, n1, n2, n3, n4, n5, n6⟩ := kpW_ns (w := w) (p := p) (f := f)
      rw [Int.toNat_natCast, if_pos rfl, if_pos rfl, if_pos rfl, if_pos rfl, if_pos rfl, n1, n2, n3, n4, n6]
      exact ⟨rfl, rfl, rfl, rfl, rfl⟩
    · rw [kpW_P hi e (by decide) (by decide)] at hk
      rw [if_neg (by omega), if_neg (by omega), if_neg (by omega), if_neg (by omega), if_neg (by omega), kpW_P hi e (by decide) (by decide), kpW_P hi e (by decide) (by decide), kpW_P hi e (by decide) (by decide), kpW_P hi e (by decide) (by decide), kpW_P hi e (by decide) (by decide)]
      exact a7 i hi hi2 hk
  · rw [sm 1 (by decide)] at hi2
    rw [g (29 + 6) (by decide) (by decide), g (29 + 7) (by decide) (by decide), kpW_T hp hi (by decide), kpW_T hp hi (by decide)]
    exact a8 i hi hi2
  · rw [sm 2 (by decide)] at hr2
    rw [g (29 + 8) (by decide) (by decide), g (29 + 9) (by decide) (by decide), g (29 + 10) (by decide) (by decide), kpW_R hp hr (by decide), kpW_R hp hr (by decide), kpW_R hp hr (by decide), kpW_R hp hr (by decide)]
    exact a9 r hr hr2
  · rw [sm 3 (by decide)] at hb2
    show C' 40 b.toNat = _ ∧ C' 30 (10 + b).toNat = _ ∧ C' 31 (10 + b).toNat = _ ∧ C' 41 b.toNat = _ ∧ C' 42 b.toNat = _
    rw [s0, s1, if_neg (by omega), if_neg (by omega), g 40 (by decide) (by decide), g 41 (by decide) (by decide), g 42 (by decide) (by decide), kpW_B hp hb (by decide), kpW_B hp hb (by decide), kpW_B hp hb (by decide), kpW_B hp hb (by decide), kpW_B hp hb (by decide)]
    exact a10 b hb hb2
theorem Jn_kp {C' : MM} (hJ : JnyR 49 w C) (hp : p < 10) (g : ∀ a, 49 ≤ a → a ≤ 54 → C' a = C a) : JnyR 49 (kpW w p f) C' := by
  obtain ⟨⟨j0, j1, j2, j8⟩, j3, j4, j5, j6, j7, j9, j10, j11, j12⟩ := hJ
  have sm : ∀ j, j ≤ 9 → kpW w p f j = w j := fun j a => kpW_sm a
  have sb : ∀ (y : Int) i, i < 10 → stB' (kpW w p f) y i = stB' w y i := fun y i _ => by
    unfold stB'
    rw [sm 1 (by decide), kpW_T hp (by omega) (by decide)]
  have fb : ∀ i, i < 7 → frB (kpW w p f) i = frB w i := fun i _ => by
    unfold frB
    rw [sm 3 (by decide), kpW_B hp (by omega) (by decide)]
  have g49 : C' 49 = C 49 := g 49 (by decide) (by decide)
  refine ⟨⟨by rw [g49, sm 7 (by decide)]; exact j0, by rw [g49, sm 6 (by decide)]; exact j1, by rw [g49, sm 8 (by decide)]; exact j2, by rw [g49, sm 9 (by decide)]; exact j8⟩, by rw [g49, j3, bset_cg 10 (sb 2)], by rw [g49, j4, bset_cg 10 (sb 3)], by rw [g49, j5, bset_cg 10 (sb 1)], by rw [g49, j6, bset_cg 10 (fun i _ => kpW_pa i)], by rw [g49, j7, bset_cg 7 fb], fun i hi hi2 => ?_, fun i hi hi2 => ?_, fun b hb hb2 h5 => ?_, fun q hq hq2 => ?_⟩
  · rw [sm 1 (by decide)] at hi2
    rw [g (49 + 1) (by decide) (by decide), kpW_T hp hi (by decide)]
    exact j9 i hi hi2
  · rw [sm 1 (by decide)] at hi
    rw [g (49 + 1) (by decide) (by decide)]
    exact j10 i hi hi2
  · rw [sm 3 (by decide)] at hb2
    rw [kpW_B hp hb (by decide)] at h5 ⊢
    rw [g (49 + 2) (by decide) (by decide)]
    exact j11 b hb hb2 h5
  · rw [sm 9 (by decide)] at hq2
    rw [kpW_hi hp (by omega), kpW_hi hp (by omega), kpW_hi hp (by omega), g (49 + 3) (by decide) (by decide), g (49 + 4) (by decide) (by decide), g (49 + 5) (by decide) (by decide)]
    exact j12 q hq hq2
def kpF (f : Nat → Int) : Prop := f 0 = 1 ∧ (0 ≤ f 1 ∧ f 1 ≤ 15) ∧ (0 ≤ f 2 ∧ f 2 ≤ 15) ∧ (f 3 = -1 ∧ f 4 = -1 ∨ 0 ≤ f 3 ∧ f 3 ≤ f 4 ∧ f 4 ≤ 23) ∧ (f 5 = 0 ∨ f 5 = 1)
theorem WF_kp (hW : WF k w) (h0 : (p : Int) < w 0) (hp : p < 10) (k0 : oP w (p : Int) 0 = 0) (hf : kpF f) (f6 : f 6 = -1) : WF k (kpW w p f) := by
  obtain ⟨hC, hPP, hT, hR, hB, hG, hL⟩ := hW
  have hC' := hC
  obtain ⟨c0, c1, c2, c3, c4, c5, c6, c7, c8, c9, c10⟩ := hC'
  have sm : ∀ j, j ≤ 9 → kpW w p f j = w j := fun j a => kpW_sm a
  have z := (hPP (p : Int) (by omega) h0).2.2.2.2.2.2.2 k0
  obtain ⟨n0, n1, n2, n3, n4, n5, n6⟩ := kpW_ns (w := w) (p := p) (f := f)
  obtain ⟨f0, f1, f2, f34, f5⟩ := hf
  refine ⟨?_, fun i hi hi2 => ?_, fun i hi hi2 => ?_, fun r hr hr2 => ?_, fun b hb hb2 => ?_, ⟨fun i hi hi2 h6 => ?_, fun i q hi hi2 hq hq2 h6 he => ?_⟩, ?_, fun j hj hj2 => ?_⟩
  · unfold WC
    rw [sm 0 (by decide), sm 1 (by decide), sm 2 (by decide), sm 3 (by decide), sm 4 (by decide), sm 5 (by decide), sm 6 (by decide), sm 7 (by decide), sm 8 (by decide), sm 9 (by decide)]
    exact hC
  · rw [sm 0 (by decide)] at hi2
    rw [sm 1 (by decide)]
    by_cases e : i = p
    · subst e
      rw [n0, n1, n2, n3, n4, n5, n6, kpW_7, z.2.2.2.2.2.2]
      exact ⟨Or.inr f0, f1, f2, f34, f5, ⟨by omega, by omega⟩, Or.inl rfl, fun g => by omega⟩
    · rw [kpW_P hi e (by decide) (by decide), kpW_P hi e (by decide) (by decide), kpW_P hi e (by decide) (by decide), kpW_P hi e (by decide) (by decide), kpW_P hi e (by decide) (by decide), kpW_P hi e (by decide) (by decide), kpW_P hi e (by decide) (by decide), kpW_P hi e (by decide) (by decide)]
      exact hPP i hi hi2
  · rw [sm 1 (by decide)] at hi2
    rw [sm 0 (by decide), kpW_T hp hi (by decide), kpW_T hp hi (by decide), kpW_T hp hi (by decide), kpW_T hp hi (by decide)]
    exact hT i hi hi2
  · rw [sm 2 (by decide)] at hr2
    rw [sm 0 (by decide), kpW_R hp hr (by decide), kpW_R hp hr (by decide), kpW_R hp hr (by decide), kpW_R hp hr (by decide)]
    exact hR r hr hr2
  · rw [sm 3 (by decide)] at hb2
    rw [sm 0 (by decide), sm 6 (by decide), kpW_B hp hb (by decide), kpW_B hp hb (by decide), kpW_B hp hb (by decide), kpW_B hp hb (by decide), kpW_B hp hb (by decide), kpW_B hp hb (by decide)]
    exact hB b hb hb2
  · rw [sm 0 (by decide)] at hi2
    by_cases e : i = p
    · subst e
      rw [n6, f6] at h6
      exact absurd h6 (by decide)
    · rw [kpW_P hi e (by decide) (by decide)] at h6 ⊢
      rw [kpW_P hi e (by decide) (by decide), kpW_T hp h6 (by decide), kpW_T hp h6 (by decide)]
      exact hG.1 i hi hi2 h6
  · rw [sm 0 (by decide)] at hi2 hq2
    by_cases e : i = p
    · subst e
      rw [n6, f6] at h6
      exact absurd h6 (by decide)
    · rw [kpW_P hi e (by decide) (by decide)] at h6 he
      by_cases e2 : q = p
      · subst e2
        rw [n6, f6] at he
        omega
      · rw [kpW_P hq e2 (by decide) (by decide)] at he
        exact hG.2 i q hi hi2 hq hq2 h6 he
  · rw [sm 9 (by decide), hL.1, cnt_cg (f := paB (kpW w p f)) (g := paB w) 10 (fun i _ => kpW_pa i)]
  · rw [sm 9 (by decide)] at hj2
    rw [sm 6 (by decide), kpW_hi hp (by omega), kpW_hi hp (by omega), kpW_hi hp (by omega)]
    exact hL.2 j hj hj2
theorem WF_kg {t : Nat} {s v : Int} (hW : WF k w) (h0 : (p : Int) < w 0) (hp : p < 10) (k0 : oP w (p : Int) 0 = 0) (hf : kpF f) (f6 : f 6 = (t : Int)) (h1 : w 1 = (t : Int)) (ht : t < 10) (hs : 0 ≤ s ∧ s ≤ 15) (hv : 1 ≤ v ∧ v ≤ 99) : WF k (apW (kpW w p f) t s v 1 (p : Int)) := by
  obtain ⟨hC, hPP, hT, hR, hB, hG, hL⟩ := hW
  obtain ⟨c0, c1, c2, c3, c4, c5, c6, c7, c8, c9, c10⟩ := hC
  have sm : ∀ j, j ≠ 1 → j ≤ 9 → apW (kpW w p f) t s v 1 (p : Int) j = w j := fun j a b => by rw [apW_sm a b, kpW_sm b]
  have e1 : apW (kpW w p f) t s v 1 (p : Int) 1 = (t : Int) + 1 := rfl
  have z := (hPP (p : Int) (by omega) h0).2.2.2.2.2.2.2 k0
  obtain ⟨n0, n1, n2, n3, n4, n5, n6⟩ := kpW_ns (w := w) (p := p) (f := f)
  obtain ⟨f0, f1, f2, f34, f5⟩ := hf
  have aP : ∀ i j : Int, 0 ≤ i → i < 10 → 0 ≤ j → j ≤ 7 → oP (apW (kpW w p f) t s v 1 (p : Int)) i j = oP (kpW w p f) i j := fun i j a b c d => apW_P a b c d
  have nP : ∀ i j : Int, 0 ≤ i → i < 10 → i ≠ p → 0 ≤ j → j ≤ 7 → oP (apW (kpW w p f) t s v 1 (p : Int)) i j = oP w i j := fun i j a b e c d => by rw [aP i j a b c d, kpW_P a e c d]
  have oTo : ∀ i j : Int, 0 ≤ i → i < t → 0 ≤ j → j ≤ 3 → oT (apW (kpW w p f) t s v 1 (p : Int)) i j = oT w i j := fun i j a b c d => by rw [apW_T a b c d, kpW_T hp a c]
  refine ⟨?_, fun i hi hi2 => ?_, fun i hi hi2 => ?_, fun r hr hr2 => ?_, fun b hb hb2 => ?_, ⟨fun i hi hi2 h6 => ?_, fun i q hi hi2 hq hq2 h6 he => ?_⟩, ?_, fun j hj hj2 => ?_⟩
  · unfold WC
    rw [e1, sm 0 (by decide) (by decide), sm 2 (by decide) (by decide), sm 3 (by decide) (by decide), sm 4 (by decide) (by decide), sm 5 (by decide) (by decide), sm 6 (by decide) (by decide), sm 7 (by decide) (by decide), sm 8 (by decide) (by decide), sm 9 (by decide) (by decide)]
    omega
  · rw [sm 0 (by decide) (by decide)] at hi2
    rw [e1]
    by_cases e : i = p
    · subst e
      rw [aP _ _ hi (by omega) (by decide) (by decide), aP _ _ hi (by omega) (by decide) (by decide), aP _ _ hi (by omega) (by decide) (by decide), aP _ _ hi (by omega) (by decide) (by decide), aP _ _ hi (by omega) (by decide) (by decide), aP _ _ hi (by omega) (by decide) (by decide), aP _ _ hi (by omega) (by decide) (by decide), aP _ _ hi (by omega) (by decide) (by decide), n0, n1, n2, n3, n4, n5, n6, kpW_7, z.2.2.2.2.2.2]
      exact ⟨Or.inr f0, f1, f2, f34, f5, ⟨by omega, by omega⟩, Or.inl rfl, fun g => by omega⟩
    · have := hPP i hi hi2
      rw [nP i _ hi (by omega) e (by decide) (by decide), nP i _ hi (by omega) e (by decide) (by decide), nP i _ hi (by omega) e (by decide) (by decide), nP i _ hi (by omega) e (by decide) (by decide), nP i _ hi (by omega) e (by decide) (by decide), nP i _ hi (by omega) e (by decide) (by decide), nP i _ hi (by omega) e (by decide) (by decide), nP i _ hi (by omega) e (by decide) (by decide)]
      obtain ⟨b1, b2, b3, b4, b5, b6, b7, b8⟩ := this
      exact ⟨b1, b2, b3, b4, b5, by omega, b7, b8⟩
  · rw [e1] at hi2
    rw [sm 0 (by decide) (by decide)]
    by_cases e : i = t
    · subst e
      rw [apW_n (by decide) (by decide), apW_n (by decide) (by decide), apW_n (by decide) (by decide), apW_n (by decide) (by decide)]
      exact ⟨hs, hv, (show (0 : Int) ≤ 1 ∧ (1 : Int) ≤ 3 by decide), (show (0 : Int) ≤ (p : Int) ∧ (p : Int) < w 0 by omega)⟩
    · rw [oTo i _ hi (by omega) (by decide) (by decide), oTo i _ hi (by omega) (by decide) (by decide), oTo i _ hi (by omega) (by decide) (by decide), oTo i _ hi (by omega) (by decide) (by decide)]
      exact hT i hi (by omega)
  · rw [sm 2 (by decide) (by decide)] at hr2
    rw [sm 0 (by decide) (by decide), apW_R ht hr (by decide), apW_R ht hr (by decide), apW_R ht hr (by decide), apW_R ht hr (by decide), kpW_R hp hr (by decide), kpW_R hp hr (by decide), kpW_R hp hr (by decide), kpW_R hp hr (by decide)]
    exact hR r hr hr2
  · rw [sm 3 (by decide) (by decide)] at hb2
    rw [sm 0 (by decide) (by decide), sm 6 (by decide) (by decide), apW_B ht hb (by decide), apW_B ht hb (by decide), apW_B ht hb (by decide), apW_B ht hb (by decide), apW_B ht hb (by decide), apW_B ht hb (by decide), kpW_B hp hb (by decide), kpW_B hp hb (by decide), kpW_B hp hb (by decide), kpW_B hp hb (by decide), kpW_B hp hb (by decide), kpW_B hp hb (by decide)]
    exact hB b hb hb2
  · rw [sm 0 (by decide) (by decide)] at hi2
    by_cases e : i = p
    · subst e
      rw [aP _ _ hi (by omega) (by decide) (by decide), aP _ _ hi (by omega) (by decide) (by decide), n6, f6, kpW_7, z.2.2.2.2.2.2, apW_n (by decide) (by decide), apW_n (by decide) (by decide)]
      exact ⟨⟨fun _ => rfl, fun _ => rfl⟩, fun _ => rfl⟩
    · have b6 := (hPP i hi hi2).2.2.2.2.2.1
      rw [nP i _ hi (by omega) e (by decide) (by decide)] at h6 ⊢
      rw [nP i _ hi (by omega) e (by decide) (by decide), oTo _ _ h6 (by omega) (by decide) (by decide), oTo _ _ h6 (by omega) (by decide) (by decide)]
      exact hG.1 i hi hi2 h6
  · rw [sm 0 (by decide) (by decide)] at hi2 hq2
    by_cases e : i = p
    · by_cases e2 : q = p
      · omega
      · have b6 := (hPP q hq hq2).2.2.2.2.2.1
        rw [nP q _ hq (by omega) e2 (by decide) (by decide), e, aP _ _ (by omega) (by omega) (by decide) (by decide), n6, f6] at he
        omega
    · have b6 := (hPP i hi hi2).2.2.2.2.2.1
      rw [nP i _ hi (by omega) e (by decide) (by decide)] at h6 he
      by_cases e2 : q = p
      · rw [e2, aP _ _ (by omega) (by omega) (by decide) (by decide), n6, f6] at he
        omega
      · rw [nP q _ hq (by omega) e2 (by decide) (by decide)] at he
        exact hG.2 i q hi hi2 hq hq2 h6 he
  · rw [sm 9 (by decide) (by decide), hL.1]
    congr 1
    refine cnt_cg 10 fun i _ => ?_
    rw [apW_pa (by rw [kpW_sm (by decide)]; exact c0.2), kpW_pa]
  · rw [sm 9 (by decide) (by decide)] at hj2
    rw [sm 6 (by decide) (by decide), apW_hi ht (by omega), apW_hi ht (by omega), apW_hi ht (by omega), kpW_hi hp (by omega), kpW_hi hp (by omega), kpW_hi hp (by omega)]
    exact hL.2 j hj hj2
end KeepL
