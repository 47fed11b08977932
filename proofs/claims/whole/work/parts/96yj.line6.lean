/-! ===== THE TALE: a brother in the draft ===== -/
section BroL
variable {w : Nat → Int} {b k : Nat} {f : Nat → Int} {C : MM}
def brW (w : Nat → Int) (b : Nat) (f : Nat → Int) : Nat → Int := blW w 3 ((b : Int) + 1) (194 + 6 * b) 6 f
theorem brW_P {p j : Int} (hp : 0 ≤ p) (hp2 : p < 10) (hj : 0 ≤ j) (hj2 : j ≤ 7) : oP (brW w b f) p j = oP w p j := blW_o (by omega) (by omega)
theorem brW_T {p j : Int} (hp : 0 ≤ p) (hp2 : p < 10) (hj : 0 ≤ j) (hj2 : j ≤ 3) : oT (brW w b f) p j = oT w p j := blW_o (by omega) (by omega)
theorem brW_R {p j : Int} (hp : 0 ≤ p) (hp2 : p < 16) (hj : 0 ≤ j) (hj2 : j ≤ 3) : oR (brW w b f) p j = oR w p j := blW_o (by omega) (by omega)
theorem brW_B {p j : Int} (hp : 0 ≤ p) (hp2 : p < b) (hj : 0 ≤ j) (hj2 : j ≤ 5) : oB (brW w b f) p j = oB w p j := blW_o (by omega) (by omega)
theorem brW_n {j : Nat} (hj : j < 6) : oB (brW w b f) (b : Int) (j : Int) = f j := by
  unfold oB brW
  rw [show ((194 + 6 * (b : Int)) + (j : Int)).toNat = (194 + 6 * b) + j by omega]
  exact blW_i (by omega) hj
theorem brW_sm {j : Nat} (h1 : j ≠ 3) (hj : j ≤ 9) : brW w b f j = w j := blW_o h1 (by omega)
theorem brW_hi {j : Nat} (hb : b < 7) (hj : 236 ≤ j) : brW w b f j = w j := blW_o (by omega) (by omega)
theorem brW_3 : brW w b f 3 = (b : Int) + 1 := blW_c
theorem brW_ns : oB (brW w b f) (b : Int) 0 = f 0 ∧ oB (brW w b f) (b : Int) 1 = f 1 ∧ oB (brW w b f) (b : Int) 2 = f 2 ∧ oB (brW w b f) (b : Int) 3 = f 3 ∧ oB (brW w b f) (b : Int) 4 = f 4 ∧ oB (brW w b f) (b : Int) 5 = f 5 := ⟨brW_n (j := 0) (by decide), brW_n (j := 1) (by decide), brW_n (j := 2) (by decide), brW_n (j := 3) (by decide), brW_n (j := 4) (by decide), brW_n (j := 5) (by decide)⟩
theorem brW_fr (h3 : w 3 = (b : Int)) (hf : f 5 = -1) (i : Nat) : frB (brW w b f) i = frB w i := by
  unfold frB
  rw [brW_3, h3]
  by_cases e : i = b
  · rw [e, brW_ns.2.2.2.2.2, hf, decide_eq_false (show ¬ ((b : Nat) : Int) < b by omega), decide_eq_false (show ¬ (0 : Int) ≤ -1 by decide), Bool.false_and, Bool.and_false]
  · by_cases g : (i : Int) < b
    · rw [decide_eq_true g, decide_eq_true (show (i : Int) < (b : Int) + 1 by omega), brW_B (by omega) g (by decide) (by decide)]
    · rw [decide_eq_false g, decide_eq_false (show ¬ (i : Int) < (b : Int) + 1 by omega), Bool.false_and, Bool.false_and]
theorem WF_br (hW : WF k w) (h3 : w 3 = (b : Int)) (hb : b < 7) (f0 : 0 ≤ f 0 ∧ f 0 < w 0) (f1 : 0 ≤ f 1 ∧ f 1 ≤ 15) (f2 : 0 ≤ f 2 ∧ f 2 ≤ 15) (f3 : 0 ≤ f 3 ∧ f 3 ≤ 99) (f4 : 0 ≤ f 4 ∧ f 4 ≤ 999) (f5 : f 5 = -1) : WF k (brW w b f) := by
  obtain ⟨hC, hPP, hT, hR, hB, hG, hL⟩ := hW
  obtain ⟨c0, c1, c2, c3, c4, c5, c6, c7, c8, c9, c10⟩ := hC
  have sm : ∀ j, j ≠ 3 → j ≤ 9 → brW w b f j = w j := fun j a b => brW_sm a b
  refine ⟨?_, fun i hi hi2 => ?_, fun i hi hi2 => ?_, fun i hi hi2 => ?_, fun i hi hi2 => ?_, ⟨fun i hi hi2 h6 => ?_, fun i q hi hi2 hq hq2 h6 he => ?_⟩, ?_, fun j hj hj2 => ?_⟩
  · unfold WC
    rw [brW_3, sm 0 (by decide) (by decide), sm 1 (by decide) (by decide), sm 2 (by decide) (by decide), sm 4 (by decide) (by decide), sm 5 (by decide) (by decide), sm 6 (by decide) (by decide), sm 7 (by decide) (by decide), sm 8 (by decide) (by decide), sm 9 (by decide) (by decide)]
    omega
  · rw [sm 0 (by decide) (by decide)] at hi2
    rw [sm 1 (by decide) (by decide), brW_P hi (by omega) (by decide) (by decide), brW_P hi (by omega) (by decide) (by decide), brW_P hi (by omega) (by decide) (by decide), brW_P hi (by omega) (by decide) (by decide), brW_P hi (by omega) (by decide) (by decide), brW_P hi (by omega) (by decide) (by decide), brW_P hi (by omega) (by decide) (by decide), brW_P hi (by omega) (by decide) (by decide)]
    exact hPP i hi hi2
  · rw [sm 1 (by decide) (by decide)] at hi2
    rw [sm 0 (by decide) (by decide), brW_T hi (by omega) (by decide) (by decide), brW_T hi (by omega) (by decide) (by decide), brW_T hi (by omega) (by decide) (by decide), brW_T hi (by omega) (by decide) (by decide)]
    exact hT i hi hi2
  · rw [sm 2 (by decide) (by decide)] at hi2
    rw [sm 0 (by decide) (by decide), brW_R hi (by omega) (by decide) (by decide), brW_R hi (by omega) (by decide) (by decide), brW_R hi (by omega) (by decide) (by decide), brW_R hi (by omega) (by decide) (by decide)]
    exact hR i hi hi2
  · rw [brW_3] at hi2
    rw [sm 0 (by decide) (by decide), sm 6 (by decide) (by decide)]
    by_cases e : i = b
    · subst e
      obtain ⟨n0, n1, n2, n3, n4, n5⟩ := brW_ns (w := w) (b := b) (f := f)
      rw [n0, n1, n2, n3, n4, n5]
      exact ⟨f0, f1, f2, f3, f4, by omega, by omega⟩
    · rw [brW_B hi (by omega) (by decide) (by decide), brW_B hi (by omega) (by decide) (by decide), brW_B hi (by omega) (by decide) (by decide), brW_B hi (by omega) (by decide) (by decide), brW_B hi (by omega) (by decide) (by decide), brW_B hi (by omega) (by decide) (by decide)]
      exact hB i hi (by omega)
  · rw [sm 0 (by decide) (by decide)] at hi2
    have b6 := (hPP i hi hi2).2.2.2.2.2.1
    rw [brW_P hi (by omega) (by decide) (by decide)] at h6 ⊢
    rw [brW_P hi (by omega) (by decide) (by decide), brW_T h6 (by omega) (by decide) (by decide), brW_T h6 (by omega) (by decide) (by decide)]
    exact hG.1 i hi hi2 h6
  · rw [sm 0 (by decide) (by decide)] at hi2 hq2
    rw [brW_P hi (by omega) (by decide) (by decide)] at h6 he
    rw [brW_P hq (by omega) (by decide) (by decide)] at he
    exact hG.2 i q hi hi2 hq hq2 h6 he
  · rw [sm 9 (by decide) (by decide), hL.1]
    congr 1
    refine cnt_cg 10 fun i hi => ?_
    unfold paB
    rw [sm 0 (by decide) (by decide), brW_P (by omega) (by omega) (by decide) (by decide)]
  · rw [sm 9 (by decide) (by decide)] at hj2
    rw [sm 6 (by decide) (by decide), brW_hi hb (by omega), brW_hi hb (by omega), brW_hi hb (by omega)]
    exact hL.2 j hj hj2
theorem La_br {C' : MM} (hL : LandR 29 w C) (hW : WF k w) (h3 : w 3 = (b : Int)) (hb : b < 7) (g29 : ∀ j, j ≠ 3 → C' 29 j = C 29 j) (g3 : C' 29 3 = (b : Int) + 1) (g : ∀ a, 32 ≤ a → a ≤ 39 → C' a = C a) (g40 : ∀ j, C' 40 j = if j = b then f 0 else C 40 j) (g30 : ∀ j, C' 30 j = if j = 10 + b then f 1 else C 30 j) (g31 : ∀ j, C' 31 j = if j = 10 + b then f 2 else C 31 j) (g41 : ∀ j, C' 41 j = if j = b then f 3 else C 41 j) (g42 : ∀ j, C' 42 j = if j = b then f 4 else C 42 j) : LandR 29 (brW w b f) C' := by
  obtain ⟨⟨a0, a1, a2, a3, a4⟩, a5, a6, a7, a8, a9, a10⟩ := hL
  have c0 := hW.1.1
  have c1 := hW.1.2.1
  have c2 := hW.1.2.2.1
  have sm : ∀ j, j ≠ 3 → j ≤ 9 → brW w b f j = w j := fun j a b => brW_sm a b
  refine ⟨⟨by rw [g29 0 (by decide), sm 0 (by decide) (by decide)]; exact a0, by rw [g29 1 (by decide), sm 1 (by decide) (by decide)]; exact a1, by rw [g29 2 (by decide), sm 2 (by decide) (by decide)]; exact a2, by rw [g3, brW_3], by rw [g29 4 (by decide), sm 4 (by decide) (by decide)]; exact a4⟩, ?_, ?_, fun i hi hi2 hk => ?_, fun i hi hi2 => ?_, fun i hi hi2 => ?_, fun i hi hi2 => ?_⟩
  · rw [g29 5 (by decide), a5]
    congr 1
    refine bset_cg 10 fun i hi => ?_
    unfold kpB
    rw [sm 0 (by decide) (by decide), brW_P (by omega) (by omega) (by decide) (by decide)]
  · rw [g29 6 (by decide), a6]
    congr 1
    refine bset_cg 10 fun i hi => ?_
    unfold tkB
    rw [sm 0 (by decide) (by decide), brW_P (by omega) (by omega) (by decide) (by decide)]
  · rw [sm 0 (by decide) (by decide)] at hi2
    rw [brW_P hi (by omega) (by decide) (by decide)] at hk
    rw [show C' (29 + 1) i.toNat = C (29 + 1) i.toNat by rw [show 29 + 1 = 30 from rfl, g30, if_neg (by omega)], show C' (29 + 2) i.toNat = C (29 + 2) i.toNat by rw [show 29 + 2 = 31 from rfl, g31, if_neg (by omega)], g (29 + 3) (by decide) (by decide), g (29 + 4) (by decide) (by decide), g (29 + 5) (by decide) (by decide), brW_P hi (by omega) (by decide) (by decide), brW_P hi (by omega) (by decide) (by decide), brW_P hi (by omega) (by decide) (by decide), brW_P hi (by omega) (by decide) (by decide), brW_P hi (by omega) (by decide) (by decide)]
    exact a7 i hi hi2 hk
  · rw [sm 1 (by decide) (by decide)] at hi2
    rw [g (29 + 6) (by decide) (by decide), g (29 + 7) (by decide) (by decide), brW_T hi (by omega) (by decide) (by decide), brW_T hi (by omega) (by decide) (by decide)]
    exact a8 i hi hi2
  · rw [sm 2 (by decide) (by decide)] at hi2
    rw [g (29 + 8) (by decide) (by decide), g (29 + 9) (by decide) (by decide), g (29 + 10) (by decide) (by decide), brW_R hi (by omega) (by decide) (by decide), brW_R hi (by omega) (by decide) (by decide), brW_R hi (by omega) (by decide) (by decide), brW_R hi (by omega) (by decide) (by decide)]
    exact a9 i hi hi2
  · rw [brW_3] at hi2
    show C' 40 i.toNat = _ ∧ C' 30 (10 + i).toNat = _ ∧ C' 31 (10 + i).toNat = _ ∧ C' 41 i.toNat = _ ∧ C' 42 i.toNat = _
    rw [g40, g30, g31, g41, g42]
    by_cases e : i = b
    · subst e
      obtain ⟨n0, n1, n2, n3, n4, n5⟩ := brW_ns (w := w) (b := b) (f := f)
      rw [n0, n1, n2, n3, n4, if_pos (by omega), if_pos (by omega), if_pos (by omega), if_pos (by omega), if_pos (by omega)]
      exact ⟨rfl, rfl, rfl, rfl, rfl⟩
    · rw [if_neg (by omega), if_neg (by omega), if_neg (by omega), if_neg (by omega), if_neg (by omega), brW_B hi (by omega) (by decide) (by decide), brW_B hi (by omega) (by decide) (by decide), brW_B hi (by omega) (by decide) (by decide), brW_B hi (by omega) (by decide) (by decide), brW_B hi (by omega) (by decide) (by decide)]
      exact a10 i hi (by omega)
theorem Jn_br {C' : MM} (hJ : JnyR 49 w C) (hW : WF k w) (h3 : w 3 = (b : Int)) (hb : b < 7) (hf : f 5 = -1) (g : ∀ a, 49 ≤ a → a ≤ 54 → C' a = C a) : JnyR 49 (brW w b f) C' := by
  obtain ⟨⟨j0, j1, j2, j8⟩, j3, j4, j5, j6, j7, j9, j10, j11, j12⟩ := hJ
  have c0 := hW.1.1
  have c1 := hW.1.2.1
  have sm : ∀ j, j ≠ 3 → j ≤ 9 → brW w b f j = w j := fun j a b => brW_sm a b
  have sb : ∀ (y : Int) i, i < 10 → stB' (brW w b f) y i = stB' w y i := fun y i hi => by
    unfold stB'
    rw [sm 1 (by decide) (by decide), brW_T (by omega) (by omega) (by decide) (by decide)]
  have pa : ∀ i, i < 10 → paB (brW w b f) i = paB w i := fun i hi => by
    unfold paB
    rw [sm 0 (by decide) (by decide), brW_P (by omega) (by omega) (by decide) (by decide)]
  have g49 : C' 49 = C 49 := g 49 (by decide) (by decide)
  refine ⟨⟨by rw [g49, sm 7 (by decide) (by decide)]; exact j0, by rw [g49, sm 6 (by decide) (by decide)]; exact j1, by rw [g49, sm 8 (by decide) (by decide)]; exact j2, by rw [g49, sm 9 (by decide) (by decide)]; exact j8⟩, by rw [g49, j3, bset_cg 10 (sb 2)], by rw [g49, j4, bset_cg 10 (sb 3)], by rw [g49, j5, bset_cg 10 (sb 1)], by rw [g49, j6, bset_cg 10 pa], by rw [g49, j7, bset_cg 7 (fun i _ => brW_fr h3 hf i)], fun i hi hi2 => ?_, fun i hi hi2 => ?_, fun i hi hi2 h5 => ?_, fun q hq hq2 => ?_⟩
  · rw [sm 1 (by decide) (by decide)] at hi2
    rw [g (49 + 1) (by decide) (by decide), brW_T hi (by omega) (by decide) (by decide)]
    exact j9 i hi hi2
  · rw [sm 1 (by decide) (by decide)] at hi
    rw [g (49 + 1) (by decide) (by decide)]
    exact j10 i hi hi2
  · rw [brW_3] at hi2
    by_cases e : i = b
    · subst e
      rw [brW_ns.2.2.2.2.2, hf] at h5
      exact absurd h5 (by decide)
    · rw [brW_B hi (by omega) (by decide) (by decide)] at h5 ⊢
      rw [g (49 + 2) (by decide) (by decide)]
      exact j11 i hi (by omega) h5
  · rw [sm 9 (by decide) (by decide)] at hq2
    rw [brW_hi hb (by omega), brW_hi hb (by omega), brW_hi hb (by omega), g (49 + 3) (by decide) (by decide), g (49 + 4) (by decide) (by decide), g (49 + 5) (by decide) (by decide)]
    exact j12 q hq hq2
end BroL
def brF (p m v y d : Int) (j : Nat) : Int := if j = 0 then p else if j = 1 then m else if j = 2 then v else if j = 3 then y else if j = 4 then d else -1
theorem bro_102 {N : MM} {b p e : Nat} {x m v y d : Int} (h3 : N 166 3 = (b : Int)) (hb : b < 7) (hd : 0 ≤ d ∧ d ≤ 1000) : ∃ N', mo_readBrother_J102 (194 + (6 * (b : Int))) x m v y d (nT N p e) = some (rI 1, nT N' p e) ∧ N' 166 = brW (N 166) b (brF x m v y d) ∧ ∀ a, a ≠ 166 → N' a = N a := by
  refine ⟨mU (mU (mU (mU (mU (mU (mU N 166 (194 + 6 * b) x) 166 (194 + 6 * b + 1) m) 166 (194 + 6 * b + 2) v) 166 (194 + 6 * b + 3) y) 166 (194 + 6 * b + 4) d) 166 (194 + 6 * b + 5) (-1)) 166 3 ((b : Int) + 1), ?_, ?_, fun a ha => by rw [mU_ne ha, mU_ne ha, mU_ne ha, mU_ne ha, mU_ne ha, mU_ne ha, mU_ne ha]⟩
  · unfold mo_readBrother_J102
    rw [bq_ge (by omega) (by decide), if_pos hd.1, bq_in (by omega) (by omega), sM_eq, show (194 + 6 * (b : Int)).toNat = 194 + 6 * b by omega, nT_u (by decide), bq_in (by omega) (by omega), sM_eq, show (194 + 6 * (b : Int) + 1).toNat = 194 + 6 * b + 1 by omega, nT_u (by decide), bq_in (by omega) (by omega), sM_eq, show (194 + 6 * (b : Int) + 2).toNat = 194 + 6 * b + 2 by omega, nT_u (by decide), bq_in (by omega) (by omega), sM_eq, show (194 + 6 * (b : Int) + 3).toNat = 194 + 6 * b + 3 by omega, nT_u (by decide), bq_in (by omega) (by omega), sM_eq, show (194 + 6 * (b : Int) + 4).toNat = 194 + 6 * b + 4 by omega, nT_u (by decide), bq_in (by omega) (by omega), sM_eq, show (194 + 6 * (b : Int) + 5).toNat = 194 + 6 * b + 5 by omega, nT_u (by decide), bq_in (by decide) (by decide), bq_in (by decide) (by decide), sM_eq, nT_ne (show 166 ≠ 165 by decide), nT_u (by decide)]
    have e : (mU (mU (mU (mU (mU (mU N 166 (194 + 6 * b) x) 166 (194 + 6 * b + 1) m) 166 (194 + 6 * b + 2) v) 166 (194 + 6 * b + 3) y) 166 (194 + 6 * b + 4) d) 166 (194 + 6 * b + 5) (-1)) 166 3 = (b : Int) := by
      rw [mU_ap, if_pos rfl, if_neg (by omega), mU_ap, if_pos rfl, if_neg (by omega), mU_ap, if_pos rfl, if_neg (by omega), mU_ap, if_pos rfl, if_neg (by omega), mU_ap, if_pos rfl, if_neg (by omega), mU_ap, if_pos rfl, if_neg (by omega), h3]
    rw [e]
  · funext j
    unfold brW blW
    rw [mU_ap, if_pos rfl, mU_ap, if_pos rfl, mU_ap, if_pos rfl, mU_ap, if_pos rfl, mU_ap, if_pos rfl, mU_ap, if_pos rfl, mU_ap, if_pos rfl]
    by_cases h1 : j = 3
    · rw [if_pos h1, if_pos h1]
    · rw [if_neg h1, if_neg h1]
      by_cases hb : 194 + 6 * b ≤ j ∧ j < 194 + 6 * b + 6
      · rw [if_pos hb]
        unfold brF
        by_cases k5 : j = 194 + 6 * b + 5
        · rw [if_pos k5, if_neg (by omega), if_neg (by omega), if_neg (by omega), if_neg (by omega), if_neg (by omega)]
        · rw [if_neg k5]
          by_cases k4 : j = 194 + 6 * b + 4
          · rw [if_pos k4, if_neg (by omega), if_neg (by omega), if_neg (by omega), if_neg (by omega), if_pos (by omega)]
          · rw [if_neg k4]
            by_cases k3 : j = 194 + 6 * b + 3
            · rw [if_pos k3, if_neg (by omega), if_neg (by omega), if_neg (by omega), if_pos (by omega)]
            · rw [if_neg k3]
              by_cases k2 : j = 194 + 6 * b + 2
              · rw [if_pos k2, if_neg (by omega), if_neg (by omega), if_pos (by omega)]
              · rw [if_neg k2]
                by_cases k1 : j = 194 + 6 * b + 1
                · rw [if_pos k1, if_neg (by omega), if_pos (by omega)]
                · rw [if_neg k1, if_pos (by omega), if_pos (by omega)]
      · rw [if_neg hb, if_neg (by omega), if_neg (by omega), if_neg (by omega), if_neg (by omega), if_neg (by omega), if_neg (by omega)]
def brC (C : MM) (b : Nat) (x m v y d : Int) : MM := mU (mU (mU (mU (mU (mU C 40 b x) 30 (10 + b) m) 31 (10 + b) v) 41 b y) 42 b d) 29 3 ((b : Int) + 1)
theorem brC_fr {C : MM} {b : Nat} {x m v y d : Int} : FrT C (brC C b x m v y d) := FrT.tr (FrT.tr (FrT.tr (FrT.tr (FrT.tr (FrT.u (by omega)) (FrT.u (by omega))) (FrT.u (by omega))) (FrT.u (by omega))) (FrT.u (by omega))) (FrT.u (by omega))
theorem Dr_br {C N N' : MM} {k b : Nat} {x m v y d : Int} (hD : DrT k C N) (h3 : N 166 3 = (b : Int)) (hb : b < 7) (hx : 0 ≤ x ∧ x < N 166 0) (hm : 0 ≤ m ∧ m ≤ 15) (hv : 0 ≤ v ∧ v ≤ 15) (hy : 0 ≤ y ∧ y ≤ 99) (hd : 0 ≤ d ∧ d ≤ 999) (hN : N' 166 = brW (N 166) b (brF x m v y d)) : DrT k (brC C b x m v y d) N' := by
  obtain ⟨hL, hJ, hW⟩ := hD
  refine ⟨?_, ?_, ?_⟩
  · rw [hN]
    refine La_br hL hW h3 hb (fun j hj => ?_) ?_ (fun a h1 h2 => ?_) (fun j => ?_) (fun j => ?_) (fun j => ?_) (fun j => ?_) (fun j => ?_)
    · unfold brC
      rw [mU_ap, if_pos rfl, if_neg hj, mU_ne (by decide), mU_ne (by decide), mU_ne (by decide), mU_ne (by decide), mU_ne (by decide)]
    · unfold brC
      rw [mU_ap, if_pos rfl, if_pos rfl]
    · unfold brC
      rw [mU_ne (by omega), mU_ne (by omega), mU_ne (by omega), mU_ne (by omega), mU_ne (by omega), mU_ne (by omega)]
    · unfold brC
      rw [mU_ne (by decide), mU_ne (by decide), mU_ne (by decide), mU_ne (by decide), mU_ne (by decide), mU_ap, if_pos rfl]; rfl
    · unfold brC
      rw [mU_ne (by decide), mU_ne (by decide), mU_ne (by decide), mU_ne (by decide), mU_ap, if_pos rfl, mU_ne (by decide)]; rfl
    · unfold brC
      rw [mU_ne (by decide), mU_ne (by decide), mU_ne (by decide), mU_ap, if_pos rfl, mU_ne (by decide), mU_ne (by decide)]; rfl
    · unfold brC
      rw [mU_ne (by decide), mU_ne (by decide), mU_ap, if_pos rfl, mU_ne (by decide), mU_ne (by decide), mU_ne (by decide)]; rfl
    · unfold brC
      rw [mU_ne (by decide), mU_ap, if_pos rfl, mU_ne (by decide), mU_ne (by decide), mU_ne (by decide), mU_ne (by decide)]; rfl
  · rw [hN]
    refine Jn_br hJ hW h3 hb rfl (fun a h1 h2 => ?_)
    unfold brC
    rw [mU_ne (by omega), mU_ne (by omega), mU_ne (by omega), mU_ne (by omega), mU_ne (by omega), mU_ne (by omega)]
  · rw [hN]
    exact WF_br hW h3 hb hx hm hv hy hd rfl
