/-! ===== THE TALE, line by line: place ===== -/
def FrN (N N' : MM) : Prop := (∀ a, a ≠ 166 → N' a = N a) ∧ (∀ j, 266 ≤ j → N' 166 j = N 166 j) ∧ ∀ j, 4 ≤ j → j ≤ 9 → N' 166 j = N 166 j
theorem FrN.rf {N : MM} : FrN N N := ⟨fun _ _ => rfl, fun _ _ => rfl, fun _ _ _ => rfl⟩
theorem FrN.tr {N N1 N2 : MM} (h : FrN N N1) (g : FrN N1 N2) : FrN N N2 := ⟨fun a ha => (g.1 a ha).trans (h.1 a ha), fun j hj => (g.2.1 j hj).trans (h.2.1 j hj), fun j h1 h2 => (g.2.2 j h1 h2).trans (h.2.2 j h1 h2)⟩
theorem FrN.u {N : MM} {j : Nat} {x : Int} (h : j < 4 ∨ (10 ≤ j ∧ j < 266)) : FrN N (mU N 166 j x) := ⟨fun a ha => mU_ne ha, fun i hi => by rw [mU_ap, if_pos rfl, if_neg (by omega)], fun i h1 h2 => by rw [mU_ap, if_pos rfl, if_neg (by omega)]⟩
theorem FrN.t {T : Nat → Int} {n : Nat} {N N' : MM} (h : FrN N N') (H : TN T n N) : TN T n N' := by
  unfold TN at *
  rw [h.1 165 (by decide), h.1 170 (by decide)]
  exact H
def DrT (k : Nat) (C N : MM) : Prop := LandR 29 (N 166) C ∧ JnyR 49 (N 166) C ∧ WF k (N 166)
/-- one line on both sides -/
def LnR (n k : Nat) (C N : MM) (p : Nat) (X Y : OR) : Prop := (∃ C' N' p' l' e', X = some (rV, tpT C' p' l' (-1)) ∧ Y = some (rI 1, nT N' p' e') ∧ FrT C C' ∧ FrN N N' ∧ DrT k C' N' ∧ p ≤ p' ∧ p' ≤ n) ∨ ∃ (q : Nat) (C' : MM) (p' l' : Nat) (N' : MM) (p'' : Nat), X = some (rV, tpT C' p' l' (q : Int)) ∧ Y = some (rI 0, nT N' p'' q) ∧ FrT C C' ∧ FrN N N' ∧ p' ≤ n ∧ q ≤ n
/-- the class has found the wrong byte and goes on; the reference has stopped there -/
theorem LnR_w {T : Nat → Int} {n k p : Nat} {C N C0 N0 : MM} {X Y : OR} {q p'' : Nat} {N' : MM} (h0 : FrT C0 C) (h1 : FrN N0 N') (hT : TC T n C) (hq : q ≤ n) (hX : WX T n (q : Int) C X) (hY : Y = some (rI 0, nT N' p'' q)) : LnR n k C0 N0 p X Y := by
  obtain ⟨C', p', l', a1, a2, a3⟩ := hX hT
  exact Or.inr ⟨q, C', p', l', N', p'', a1, hY, h0.tr a2, h1, a3, hq⟩
def plW (w : Nat → Int) (P : Nat) : Nat → Int := fun j => if j = 0 then (P : Int) + 1 else if j = 10 + 8 * P + 6 then -1 else if j = 10 + 8 * P + 4 then -1 else if j = 10 + 8 * P + 3 then -1 else if 10 + 8 * P ≤ j ∧ j < 10 + 8 * P + 8 then 0 else w j
section PlaceL
variable {w : Nat → Int} {P k : Nat}
theorem plW_o {j : Nat} (h0 : j ≠ 0) (h : j < 10 + 8 * P ∨ 10 + 8 * P + 8 ≤ j) : plW w P j = w j := by
  unfold plW
  rw [if_neg h0, if_neg (by omega), if_neg (by omega), if_neg (by omega), if_neg (by omega)]
theorem plW_P {p j : Int} (hp : 0 ≤ p) (hp2 : p < P) (hj : 0 ≤ j) (hj2 : j ≤ 7) : oP (plW w P) p j = oP w p j := plW_o (by omega) (by omega)
theorem plW_n {j : Int} (hj : 0 ≤ j) (hj2 : j ≤ 7) : oP (plW w P) (P : Int) j = if j = 6 ∨ j = 4 ∨ j = 3 then -1 else 0 := by
  unfold oP plW
  rw [if_neg (by omega)]
  by_cases h6 : j = 6
  · rw [if_pos (by omega), if_pos (Or.inl h6)]
  · rw [if_neg (by omega)]
    by_cases h4 : j = 4
    · rw [if_pos (by omega), if_pos (Or.inr (Or.inl h4))]
    · rw [if_neg (by omega)]
      by_cases h3 : j = 3
      · rw [if_pos (by omega), if_pos (Or.inr (Or.inr h3))]
      · rw [if_neg (by omega), if_pos (by omega), if_neg (by omega)]
theorem plW_T {t j : Int} (hP : P < 10) (ht : 0 ≤ t) (hj : 0 ≤ j) : oT (plW w P) t j = oT w t j := plW_o (by omega) (by omega)
theorem plW_R {t j : Int} (hP : P < 10) (ht : 0 ≤ t) (hj : 0 ≤ j) : oR (plW w P) t j = oR w t j := plW_o (by omega) (by omega)
theorem plW_B {t j : Int} (hP : P < 10) (ht : 0 ≤ t) (hj : 0 ≤ j) : oB (plW w P) t j = oB w t j := plW_o (by omega) (by omega)
theorem plW_kp (h0 : w 0 = (P : Int)) (i : Nat) : kpB (plW w P) i = kpB w i := by
  unfold kpB
  have e0 : plW w P 0 = (P : Int) + 1 := rfl
  rw [e0, h0]
  by_cases h1 : (i : Int) < P
  · rw [decide_eq_true h1, decide_eq_true (show (i : Int) < (P : Int) + 1 by omega), plW_P (by omega) h1 (by decide) (by decide)]
  · by_cases h2 : i = P
    · rw [h2, plW_n (by decide) (by decide), decide_eq_false (show ¬ ((P : Nat) : Int) < P by omega)]; simp
    · rw [decide_eq_false h1, decide_eq_false (show ¬ (i : Int) < (P : Int) + 1 by omega), Bool.false_and, Bool.false_and]
theorem plW_tk (h0 : w 0 = (P : Int)) (i : Nat) : tkB (plW w P) i = tkB w i := by
  unfold tkB
  have e0 : plW w P 0 = (P : Int) + 1 := rfl
  rw [e0, h0]
  by_cases h1 : (i : Int) < P
  · rw [decide_eq_true h1, decide_eq_true (show (i : Int) < (P : Int) + 1 by omega), plW_P (by omega) h1 (by decide) (by decide)]
  · by_cases h2 : i = P
    · rw [h2, plW_n (by decide) (by decide), decide_eq_false (show ¬ ((P : Nat) : Int) < P by omega)]; simp
    · rw [decide_eq_false h1, decide_eq_false (show ¬ (i : Int) < (P : Int) + 1 by omega), Bool.false_and, Bool.false_and]
theorem plW_pa (h0 : w 0 = (P : Int)) (i : Nat) : paB (plW w P) i = paB w i := by
  unfold paB
  have e0 : plW w P 0 = (P : Int) + 1 := rfl
  rw [e0, h0]
  by_cases h1 : (i : Int) < P
  · rw [decide_eq_true h1, decide_eq_true (show (i : Int) < (P : Int) + 1 by omega), plW_P (by omega) h1 (by decide) (by decide)]
  · by_cases h2 : i = P
    · rw [h2, plW_n (by decide) (by decide), decide_eq_false (show ¬ ((P : Nat) : Int) < P by omega)]; simp
    · rw [decide_eq_false h1, decide_eq_false (show ¬ (i : Int) < (P : Int) + 1 by omega), Bool.false_and, Bool.false_and]
theorem plW_sm {j : Nat} (hj : 1 ≤ j ∧ j ≤ 9) : plW w P j = w j := plW_o (by omega) (by omega)
theorem plW_hi {j : Nat} (hP : P < 10) (hj : 90 ≤ j) : plW w P j = w j := plW_o (by omega) (by omega)
theorem WF_pl (hW : WF k w) (h0 : w 0 = (P : Int)) (hP : P < 10) : WF k (plW w P) := by
  obtain ⟨hC, hPP, hT, hR, hB, hG, hL⟩ := hW
  obtain ⟨c0, c1, c2, c3, c4, c5, c6, c7, c8, c9, c10⟩ := hC
  have e0 : plW w P 0 = (P : Int) + 1 := rfl
  have s := fun j (hj : 1 ≤ j ∧ j ≤ 9) => plW_sm (w := w) (P := P) hj
  refine ⟨?_, fun p hp hp2 => ?_, fun t ht ht2 => ?_, fun r hr hr2 => ?_, fun b hb hb2 => ?_, ⟨fun p hp hp2 h6 => ?_, fun p q hp hp2 hq hq2 h6 he => ?_⟩, ?_, fun j hj hj2 => ?_⟩
  · unfold WC
    rw [e0, s 1 (by omega), s 2 (by omega), s 3 (by omega), s 4 (by omega), s 5 (by omega), s 6 (by omega), s 7 (by omega), s 8 (by omega), s 9 (by omega)]
    omega
  · rw [e0] at hp2
    rw [s 1 (by omega)]
    by_cases e : p = P
    · subst e
      rw [plW_n (by decide) (by decide), plW_n (by decide) (by decide), plW_n (by decide) (by decide), plW_n (by decide) (by decide), plW_n (by decide) (by decide), plW_n (by decide) (by decide), plW_n (by decide) (by decide), plW_n (by decide) (by decide)]
      simp
      omega
    · have := hPP p hp (by omega)
      rw [plW_P hp (by omega) (by decide) (by decide), plW_P hp (by omega) (by decide) (by decide), plW_P hp (by omega) (by decide) (by decide), plW_P hp (by omega) (by decide) (by decide), plW_P hp (by omega) (by decide) (by decide), plW_P hp (by omega) (by decide) (by decide), plW_P hp (by omega) (by decide) (by decide), plW_P hp (by omega) (by decide) (by decide)]
      exact this
  · rw [s 1 (by omega)] at ht2
    have := hT t ht ht2
    rw [e0, plW_T hP ht (by decide), plW_T hP ht (by decide), plW_T hP ht (by decide), plW_T hP ht (by decide)]
    omega
  · rw [s 2 (by omega)] at hr2
    have := hR r hr hr2
    rw [e0, plW_R hP hr (by decide), plW_R hP hr (by decide), plW_R hP hr (by decide), plW_R hP hr (by decide)]
    omega
  · rw [s 3 (by omega)] at hb2
    have := hB b hb hb2
    rw [e0, s 6 (by omega), plW_B hP hb (by decide), plW_B hP hb (by decide), plW_B hP hb (by decide), plW_B hP hb (by decide), plW_B hP hb (by decide), plW_B hP hb (by decide)]
    omega
  · rw [e0] at hp2
    by_cases e : p = P
    · subst e
      rw [plW_n (by decide) (by decide)] at h6
      simp at h6
    · rw [plW_P hp (by omega) (by decide) (by decide)] at h6 ⊢
      rw [plW_P hp (by omega) (by decide) (by decide), plW_T hP h6 (by decide), plW_T hP h6 (by decide)]
      exact hG.1 p hp (by omega) h6
  · rw [e0] at hp2 hq2
    by_cases e : p = P
    · subst e
      rw [plW_n (by decide) (by decide)] at h6
      simp at h6
    · rw [plW_P hp (by omega) (by decide) (by decide)] at h6 he
      by_cases e2 : q = P
      · subst e2
        rw [plW_n (by decide) (by decide)] at he
        simp at he
        omega
      · rw [plW_P hq (by omega) (by decide) (by decide)] at he
        exact hG.2 p q hp (by omega) hq (by omega) h6 he
  · rw [s 9 (by omega), hL.1, cnt_cg (f := paB (plW w P)) (g := paB w) 10 (fun i _ => plW_pa h0 i)]
  · rw [s 9 (by omega)] at hj2
    rw [s 6 (by omega), plW_hi hP (by omega), plW_hi hP (by omega), plW_hi hP (by omega)]
    exact hL.2 j hj hj2
theorem Dr_pl {C : MM} (hL : LandR 29 w C) (hJ : JnyR 49 w C) (hW : WF k w) (h0 : w 0 = (P : Int)) (hP : P < 10) : LandR 29 (plW w P) (mU C 29 0 ((P : Int) + 1)) ∧ JnyR 49 (plW w P) (mU C 29 0 ((P : Int) + 1)) := by
  obtain ⟨⟨a0, a1, a2, a3, a4⟩, a5, a6, a7, a8, a9, a10⟩ := hL
  have e0 : plW w P 0 = (P : Int) + 1 := rfl
  have s := fun j (hj : 1 ≤ j ∧ j ≤ 9) => plW_sm (w := w) (P := P) hj
  have m : ∀ j, j ≠ 0 → (mU C 29 0 ((P : Int) + 1)) 29 j = C 29 j := fun j hj => by rw [mU_ap, if_pos rfl, if_neg hj]
  have mo : ∀ a, a ≠ 29 → (mU C 29 0 ((P : Int) + 1)) a = C a := fun a ha => mU_ne ha
  have n7 := hW.1.2.2.2.2.2.2.2.1
  constructor
  · refine ⟨⟨by rw [e0, mU_ap, if_pos rfl, if_pos rfl], by rw [m 1 (by decide), s 1 (by omega)]; exact a1, by rw [m 2 (by decide), s 2 (by omega)]; exact a2, by rw [m 3 (by decide), s 3 (by omega)]; exact a3, by rw [m 4 (by decide), s 4 (by omega)]; exact a4⟩, by rw [m 5 (by decide), a5, bset_cg 10 (fun i _ => plW_kp h0 i)], by rw [m 6 (by decide), a6, bset_cg 10 (fun i _ => plW_tk h0 i)], fun p hp hp2 hk => ?_, fun t ht ht2 => ?_, fun r hr hr2 => ?_, fun b hb hb2 => ?_⟩
    · rw [e0] at hp2
      by_cases e : p = P
      · subst e
        rw [plW_n (by decide) (by decide)] at hk
        simp at hk
      · rw [plW_P hp (by omega) (by decide) (by decide)] at hk
        rw [plW_P hp (by omega) (by decide) (by decide), plW_P hp (by omega) (by decide) (by decide), plW_P hp (by omega) (by decide) (by decide), plW_P hp (by omega) (by decide) (by decide), plW_P hp (by omega) (by decide) (by decide)]
        exact a7 p hp (by omega) hk
    · rw [s 1 (by omega)] at ht2
      rw [plW_T hP ht (by decide), plW_T hP ht (by decide)]
      exact a8 t ht ht2
    · rw [s 2 (by omega)] at hr2
      rw [plW_R hP hr (by decide), plW_R hP hr (by decide), plW_R hP hr (by decide), plW_R hP hr (by decide)]
      exact a9 r hr hr2
    · rw [s 3 (by omega)] at hb2
      rw [plW_B hP hb (by decide), plW_B hP hb (by decide), plW_B hP hb (by decide), plW_B hP hb (by decide), plW_B hP hb (by decide)]
      exact a10 b hb hb2
  · obtain ⟨⟨j0, j1, j2, j8⟩, j3, j4, j5, j6, j7, j9, j10, j11, j12⟩ := hJ
    have sb : ∀ z i, stB' (plW w P) z i = stB' w z i := fun z i => by
      unfold stB'
      rw [s 1 (by omega), plW_T hP (by omega) (by decide)]
    have fb : ∀ i, frB (plW w P) i = frB w i := fun i => by
      unfold frB
      rw [s 3 (by omega), plW_B hP (by omega) (by decide)]
    refine ⟨⟨by rw [s 7 (by omega)]; exact j0, by rw [s 6 (by omega)]; exact j1, by rw [s 8 (by omega)]; exact j2, by rw [s 9 (by omega)]; exact j8⟩, by rw [mo 49 (by decide), j3, bset_cg 10 (fun i _ => sb 2 i)], by rw [mo 49 (by decide), j4, bset_cg 10 (fun i _ => sb 3 i)], by rw [mo 49 (by decide), j5, bset_cg 10 (fun i _ => sb 1 i)], by rw [mo 49 (by decide), j6, bset_cg 10 (fun i _ => plW_pa h0 i)], by rw [mo 49 (by decide), j7, bset_cg 7 (fun i _ => fb i)], fun t ht ht2 => ?_, fun t ht ht2 => ?_, fun b hb hb2 h5 => ?_, fun q hq hq2 => ?_⟩
    · rw [s 1 (by omega)] at ht2
      rw [plW_T hP ht (by decide)]
      exact j9 t ht ht2
    · rw [s 1 (by omega)] at ht
      exact j10 t ht ht2
    · rw [s 3 (by omega)] at hb2
      rw [plW_B hP hb (by decide)] at h5 ⊢
      exact j11 b hb hb2 h5
    · rw [s 9 (by omega)] at hq2
      rw [plW_hi hP (by omega), plW_hi hP (by omega), plW_hi hP (by omega)]
      exact j12 q hq hq2
end PlaceL
theorem nT_fl {N : MM} {p e o m : Nat} {f : Nat → Int} : flM (nT N p e) 166 o m f = nT (flM N 166 o m f) p e := by
  funext a j
  by_cases h : a = 166
  · subst h
    rw [flM_ap, nT_ne (by decide), nT_ne (by decide), flM_ap]
  · rw [flM_ne h]
    by_cases h2 : a = 165
    · subst h2
      show (if j = 9 then _ else _) = (if j = 9 then _ else if j = 11 then _ else (flM N 166 o m f) 165 j)
      rw [flM_ne (by decide)]
    · rw [nT_ne h2, nT_ne h2, flM_ne h]
theorem line_place {T : Nat → Int} {n k p q : Nat} {C N : MM} (hC : TC T n C) (hD : DrT k C N) (hp : p ≤ n) (hq : q ≤ n) {p0 : Nat} (hp0 : p0 ≤ p) : LnR n k C N p0 (bV (tale_readPlace (tpT C p q (-1))) fun M_32 => some (rV, M_32)) (bI (mo_readPlace (nT N p q)) fun z_30 M_29 => (bif zo z_30 then some (rI z_30, M_29) else none)) := by
  obtain ⟨hL, hJ, hW⟩ := hD
  have c0 := hW.1.1
  obtain ⟨P, hP⟩ : ∃ P : Nat, N 166 0 = (P : Int) := ⟨(N 166 0).toNat, by omega⟩
  unfold tale_readPlace mo_readPlace
  rw [cT_ne (show 29 ≠ 1 by decide), hL.1.1, hP, bq_lt (by omega) (by decide), mo_places_b, nT_ne (show 166 ≠ 165 by decide), hP, bq_ne (by omega) (by decide)]
  by_cases g : P < 10
  · rw [if_pos (by omega), if_neg (by omega), sM_eq, cT_u (by decide), bV_V]
    have run : ∀ K : MM → OR, mo_readPlace_L15 (P : Int) K FU 0 (nT N p q) = K (flM (nT N p q) 166 (10 + 8 * P) (10 + 8 * P + 8) (fun _ => 0)) := by
      intro K
      have := fl_run0 (L := fun F i M => mo_readPlace_L15 (P : Int) K F i M) (K := K) (M := nT N p q) (a := 166) (o := 10 + 8 * P) (N := 8) (F := FU) (f := fun _ => 0) (FU_gt (by decide)) (fun F i hi => ?_) (fun F => ?_)
      · exact this
      · rw [mo_readPlace_L15, bq_ge (by omega) (by decide), if_neg (by omega)]
        unfold mo_sets
        rw [bq_in (by omega) (by omega), sM_eq, bV_V, show ((10 + 8 * (P : Int)) + (i : Int)).toNat = 10 + 8 * P + i by omega]
      · rw [mo_readPlace_L15, bq_ge (by decide) (by decide), if_pos (by decide)]
    have st : ∀ (k : MM → OR) (M : MM) (j : Nat) (x : Int), j < 8 → bV (mo_sets (P : Int) (j : Int) x M) k = k (mU M 166 (10 + 8 * P + j) x) := fun k M j x hj => by
      unfold mo_sets
      rw [bq_in (by omega) (by omega), sM_eq, bV_V, show ((10 + 8 * (P : Int)) + (j : Int)).toNat = 10 + 8 * P + j by omega]
    rw [run, nT_fl, show bV (mo_sets (P : Int) 3 (-1) (nT (flM N 166 (10 + 8 * P) (10 + 8 * P + 8) fun _ => 0) p q)) _ = _ from st _ _ 3 (-1) (by decide), nT_u (by decide), show bV (mo_sets (P : Int) 4 (-1) (nT (mU (flM N 166 (10 + 8 * P) (10 + 8 * P + 8) fun _ => 0) 166 (10 + 8 * P + 3) (-1)) p q)) _ = _ from st _ _ 4 (-1) (by decide), nT_u (by decide), show bV (mo_sets (P : Int) 6 (-1) (nT (mU (mU (flM N 166 (10 + 8 * P) (10 + 8 * P + 8) fun _ => 0) 166 (10 + 8 * P + 3) (-1)) 166 (10 + 8 * P + 4) (-1)) p q)) _ = _ from st _ _ 6 (-1) (by decide), nT_u (by decide), bq_in (by decide) (by decide), bq_in (by decide) (by decide), sM_eq, nT_ne (show 166 ≠ 165 by decide), nT_u (by decide), bI_I]
    obtain ⟨N', hN'⟩ : ∃ N', N' = mU (mU (mU (mU (flM N 166 (10 + 8 * P) (10 + 8 * P + 8) fun _ => 0) 166 (10 + 8 * P + 3) (-1)) 166 (10 + 8 * P + 4) (-1)) 166 (10 + 8 * P + 6) (-1)) 166 0 ((mU (mU (mU (flM N 166 (10 + 8 * P) (10 + 8 * P + 8) fun _ => 0) 166 (10 + 8 * P + 3) (-1)) 166 (10 + 8 * P + 4) (-1)) 166 (10 + 8 * P + 6) (-1)) 166 0 + 1) := ⟨_, rfl⟩
    rw [← hN']
    have e00 : (mU (mU (mU (flM N 166 (10 + 8 * P) (10 + 8 * P + 8) fun _ => 0) 166 (10 + 8 * P + 3) (-1)) 166 (10 + 8 * P + 4) (-1)) 166 (10 + 8 * P + 6) (-1)) 166 0 = (P : Int) := by
      rw [mU_ap, if_pos rfl, if_neg (by omega), mU_ap, if_pos rfl, if_neg (by omega), mU_ap, if_pos rfl, if_neg (by omega), flM_ap, if_neg (by omega), hP]
    rw [e00] at hN'
    have w' : N' 166 = plW (N 166) P := by
      funext j
      rw [hN', mU_ap, if_pos rfl, mU_ap, if_pos rfl, mU_ap, if_pos rfl, mU_ap, if_pos rfl, flM_ap]; rfl
    have fr : ∀ a, a ≠ 166 → N' a = N a := fun a ha => by rw [hN', mU_ne ha, mU_ne ha, mU_ne ha, mU_ne ha, flM_ne ha]
    have d := Dr_pl hL hJ hW hP g
    refine Or.inl ⟨mU C 29 0 ((P : Int) + 1), N', p, q, q, rfl, rfl, FrT.u (by omega), ⟨fr, fun j hj => by rw [w', plW_hi g (by omega)], fun j h1 h2 => by rw [w', plW_sm (by omega)]⟩, ⟨by rw [w']; exact d.1, by rw [w']; exact d.2, by rw [w']; exact WF_pl hW hP g⟩, hp0, hp⟩
  · rw [if_neg (by omega), if_pos (by omega), cT_3, failAt_b (by decide), if_pos rfl, bV_V, bI_I]
    exact Or.inr ⟨q, C, p, q, N, p, rfl, rfl, FrT.rf, FrN.rf, hp, hq⟩
