/-! ===== THE TALE, line by line: road ===== -/
def blW (w : Nat → Int) (c : Nat) (v : Int) (o m : Nat) (f : Nat → Int) : Nat → Int := fun j => if j = c then v else if o ≤ j ∧ j < o + m then f (j - o) else w j
section RoadL
variable {w : Nat → Int} {c o m r k : Nat} {v : Int} {f : Nat → Int} {C : MM}
theorem blW_o {j : Nat} (h1 : j ≠ c) (h : j < o ∨ o + m ≤ j) : blW w c v o m f j = w j := by
  unfold blW
  rw [if_neg h1, if_neg (by omega)]
theorem blW_i {j : Nat} (h1 : o + j ≠ c) (h : j < m) : blW w c v o m f (o + j) = f j := by
  unfold blW
  rw [if_neg h1, if_pos (by omega), show o + j - o = j by omega]
theorem blW_c : blW w c v o m f c = v := if_pos rfl
def rdW (w : Nat → Int) (r : Nat) (f : Nat → Int) : Nat → Int := blW w 2 ((r : Int) + 1) (130 + 4 * r) 4 f
theorem rdW_P {p j : Int} (hp : 0 ≤ p) (hp2 : p < 10) (hj : 0 ≤ j) (hj2 : j ≤ 7) : oP (rdW w r f) p j = oP w p j := blW_o (by omega) (by omega)
theorem rdW_T {p j : Int} (hp : 0 ≤ p) (hp2 : p < 10) (hj : 0 ≤ j) (hj2 : j ≤ 3) : oT (rdW w r f) p j = oT w p j := blW_o (by omega) (by omega)
theorem rdW_B {p j : Int} (hr : r < 16) (hp : 0 ≤ p) (hj : 0 ≤ j) : oB (rdW w r f) p j = oB w p j := blW_o (by omega) (by omega)
theorem rdW_R {p j : Int} (hp : 0 ≤ p) (hp2 : p < r) (hj : 0 ≤ j) (hj2 : j ≤ 3) : oR (rdW w r f) p j = oR w p j := blW_o (by omega) (by omega)
theorem rdW_n {j : Nat} (hj : j < 4) : oR (rdW w r f) (r : Int) (j : Int) = f j := by
  unfold oR rdW
  rw [show ((130 + 4 * (r : Int)) + (j : Int)).toNat = (130 + 4 * r) + j by omega]
  exact blW_i (by omega) hj
theorem rdW_sm {j : Nat} (h1 : j ≠ 2) (hj : j ≤ 9) : rdW w r f j = w j := blW_o h1 (by omega)
theorem rdW_hi {j : Nat} (hr : r < 16) (hj : 194 ≤ j) : rdW w r f j = w j := blW_o (by omega) (by omega)
theorem rdW_2 : rdW w r f 2 = (r : Int) + 1 := blW_c
theorem WF_rd (hW : WF k w) (h2 : w 2 = (r : Int)) (hr : r < 16) (f0 : 0 ≤ f 0 ∧ f 0 < w 0) (f1 : 0 ≤ f 1 ∧ f 1 < w 0) (fn : f 0 ≠ f 1) (f2 : 1 ≤ f 2 ∧ f 2 ≤ 9) (f3 : 1 ≤ f 3 ∧ f 3 ≤ 100) : WF k (rdW w r f) := by
  obtain ⟨hC, hPP, hT, hR, hB, hG, hL⟩ := hW
  obtain ⟨c0, c1, c2, c3, c4, c5, c6, c7, c8, c9, c10⟩ := hC
  have sm : ∀ j, j ≠ 2 → j ≤ 9 → rdW w r f j = w j := fun j a b => rdW_sm a b
  refine ⟨?_, fun i hi hi2 => ?_, fun i hi hi2 => ?_, fun i hi hi2 => ?_, fun b hb hb2 => ?_, ⟨fun i hi hi2 h6 => ?_, fun i q hi hi2 hq hq2 h6 he => ?_⟩, ?_, fun j hj hj2 => ?_⟩
  · unfold WC
    rw [rdW_2, sm 0 (by decide) (by decide), sm 1 (by decide) (by decide), sm 3 (by decide) (by decide), sm 4 (by decide) (by decide), sm 5 (by decide) (by decide), sm 6 (by decide) (by decide), sm 7 (by decide) (by decide), sm 8 (by decide) (by decide), sm 9 (by decide) (by decide)]
    omega
  · rw [sm 0 (by decide) (by decide)] at hi2
    rw [sm 1 (by decide) (by decide), rdW_P hi (by omega) (by decide) (by decide), rdW_P hi (by omega) (by decide) (by decide), rdW_P hi (by omega) (by decide) (by decide), rdW_P hi (by omega) (by decide) (by decide), rdW_P hi (by omega) (by decide) (by decide), rdW_P hi (by omega) (by decide) (by decide), rdW_P hi (by omega) (by decide) (by decide), rdW_P hi (by omega) (by decide) (by decide)]
    exact hPP i hi hi2
  · rw [sm 1 (by decide) (by decide)] at hi2
    rw [sm 0 (by decide) (by decide), rdW_T hi (by omega) (by decide) (by decide), rdW_T hi (by omega) (by decide) (by decide), rdW_T hi (by omega) (by decide) (by decide), rdW_T hi (by omega) (by decide) (by decide)]
    exact hT i hi hi2
  · rw [rdW_2] at hi2
    rw [sm 0 (by decide) (by decide)]
    by_cases e : i = r
    · subst e
      have n0 := rdW_n (w := w) (r := r) (f := f) (j := 0) (by decide)
      have n1 := rdW_n (w := w) (r := r) (f := f) (j := 1) (by decide)
      have n2 := rdW_n (w := w) (r := r) (f := f) (j := 2) (by decide)
      have n3 := rdW_n (w := w) (r := r) (f := f) (j := 3) (by decide)
      rw [show oR (rdW w r f) (r : Int) 0 = _ from n0, show oR (rdW w r f) (r : Int) 1 = _ from n1, show oR (rdW w r f) (r : Int) 2 = _ from n2, show oR (rdW w r f) (r : Int) 3 = _ from n3]
      exact ⟨f0, f1, fn, f2, f3⟩
    · rw [rdW_R hi (by omega) (by decide) (by decide), rdW_R hi (by omega) (by decide) (by decide), rdW_R hi (by omega) (by decide) (by decide), rdW_R hi (by omega) (by decide) (by decide)]
      exact hR i hi (by omega)
  · rw [sm 3 (by decide) (by decide)] at hb2
    rw [sm 0 (by decide) (by decide), sm 6 (by decide) (by decide), rdW_B hr hb (by decide), rdW_B hr hb (by decide), rdW_B hr hb (by decide), rdW_B hr hb (by decide), rdW_B hr hb (by decide), rdW_B hr hb (by decide)]
    exact hB b hb hb2
  · rw [sm 0 (by decide) (by decide)] at hi2
    have b6 := (hPP i hi hi2).2.2.2.2.2.1
    rw [rdW_P hi (by omega) (by decide) (by decide)] at h6 ⊢
    rw [rdW_P hi (by omega) (by decide) (by decide), rdW_T h6 (by omega) (by decide) (by decide), rdW_T h6 (by omega) (by decide) (by decide)]
    exact hG.1 i hi hi2 h6
  · rw [sm 0 (by decide) (by decide)] at hi2 hq2
    rw [rdW_P hi (by omega) (by decide) (by decide)] at h6 he
    rw [rdW_P hq (by omega) (by decide) (by decide)] at he
    exact hG.2 i q hi hi2 hq hq2 h6 he
  · rw [sm 9 (by decide) (by decide), hL.1]
    congr 1
    refine cnt_cg 10 fun i hi => ?_
    unfold paB
    rw [sm 0 (by decide) (by decide), rdW_P (by omega) (by omega) (by decide) (by decide)]
  · rw [sm 9 (by decide) (by decide)] at hj2
    rw [sm 6 (by decide) (by decide), rdW_hi hr (by omega), rdW_hi hr (by omega), rdW_hi hr (by omega)]
    exact hL.2 j hj hj2
theorem La_rd {C' : MM} (hL : LandR 29 w C) (hW : WF k w) (h2 : w 2 = (r : Int)) (hr : r < 16) (g29 : ∀ j, j ≠ 2 → C' 29 j = C 29 j) (g2 : C' 29 2 = (r : Int) + 1) (g : ∀ a, 30 ≤ a → a ≤ 42 → a ≠ 37 → a ≠ 38 → a ≠ 39 → C' a = C a) (g37 : ∀ j, C' 37 j = if j = 2 * r then f 0 else if j = 2 * r + 1 then f 1 else C 37 j) (g38 : ∀ j, C' 38 j = if j = r then f 2 else C 38 j) (g39 : ∀ j, C' 39 j = if j = r then f 3 else C 39 j) : LandR 29 (rdW w r f) C' := by
  obtain ⟨⟨a0, a1, a2, a3, a4⟩, a5, a6, a7, a8, a9, a10⟩ := hL
  have c0 := hW.1.1
  have c1 := hW.1.2.1
  have sm : ∀ j, j ≠ 2 → j ≤ 9 → rdW w r f j = w j := fun j a b => rdW_sm a b
  refine ⟨⟨by rw [g29 0 (by decide), sm 0 (by decide) (by decide)]; exact a0, by rw [g29 1 (by decide), sm 1 (by decide) (by decide)]; exact a1, by rw [g2, rdW_2], by rw [g29 3 (by decide), sm 3 (by decide) (by decide)]; exact a3, by rw [g29 4 (by decide), sm 4 (by decide) (by decide)]; exact a4⟩, ?_, ?_, fun i hi hi2 hk => ?_, fun i hi hi2 => ?_, fun i hi hi2 => ?_, fun b hb hb2 => ?_⟩
  · rw [g29 5 (by decide), a5]
    congr 1
    refine bset_cg 10 fun i hi => ?_
    unfold kpB
    rw [sm 0 (by decide) (by decide), rdW_P (by omega) (by omega) (by decide) (by decide)]
  · rw [g29 6 (by decide), a6]
    congr 1
    refine bset_cg 10 fun i hi => ?_
    unfold tkB
    rw [sm 0 (by decide) (by decide), rdW_P (by omega) (by omega) (by decide) (by decide)]
  · rw [sm 0 (by decide) (by decide)] at hi2
    rw [rdW_P hi (by omega) (by decide) (by decide)] at hk
    rw [g (29 + 1) (by decide) (by decide) (by decide) (by decide) (by decide), g (29 + 2) (by decide) (by decide) (by decide) (by decide) (by decide), g (29 + 3) (by decide) (by decide) (by decide) (by decide) (by decide), g (29 + 4) (by decide) (by decide) (by decide) (by decide) (by decide), g (29 + 5) (by decide) (by decide) (by decide) (by decide) (by decide), rdW_P hi (by omega) (by decide) (by decide), rdW_P hi (by omega) (by decide) (by decide), rdW_P hi (by omega) (by decide) (by decide), rdW_P hi (by omega) (by decide) (by decide), rdW_P hi (by omega) (by decide) (by decide)]
    exact a7 i hi hi2 hk
  · rw [sm 1 (by decide) (by decide)] at hi2
    rw [g (29 + 6) (by decide) (by decide) (by decide) (by decide) (by decide), g (29 + 7) (by decide) (by decide) (by decide) (by decide) (by decide), rdW_T hi (by omega) (by decide) (by decide), rdW_T hi (by omega) (by decide) (by decide)]
    exact a8 i hi hi2
  · rw [rdW_2] at hi2
    show C' 37 (2 * i).toNat = _ ∧ C' 37 (2 * i + 1).toNat = _ ∧ C' 38 i.toNat = _ ∧ C' 39 i.toNat = _
    rw [g37, g37, g38, g39]
    by_cases e : i = r
    · subst e
      have n0 := rdW_n (w := w) (r := r) (f := f) (j := 0) (by decide)
      have n1 := rdW_n (w := w) (r := r) (f := f) (j := 1) (by decide)
      have n2 := rdW_n (w := w) (r := r) (f := f) (j := 2) (by decide)
      have n3 := rdW_n (w := w) (r := r) (f := f) (j := 3) (by decide)
      rw [show oR (rdW w r f) (r : Int) 0 = _ from n0, show oR (rdW w r f) (r : Int) 1 = _ from n1, show oR (rdW w r f) (r : Int) 2 = _ from n2, show oR (rdW w r f) (r : Int) 3 = _ from n3, if_pos (by omega), if_neg (by omega), if_pos (by omega), if_pos (by omega), if_pos (by omega)]
      exact ⟨rfl, rfl, rfl, rfl⟩
    · rw [if_neg (by omega), if_neg (by omega), if_neg (by omega), if_neg (by omega), if_neg (by omega), if_neg (by omega), rdW_R hi (by omega) (by decide) (by decide), rdW_R hi (by omega) (by decide) (by decide), rdW_R hi (by omega) (by decide) (by decide), rdW_R hi (by omega) (by decide) (by decide)]
      exact a9 i hi (by omega)
  · rw [sm 3 (by decide) (by decide)] at hb2
    rw [g (29 + 11) (by decide) (by decide) (by decide) (by decide) (by decide), g (29 + 1) (by decide) (by decide) (by decide) (by decide) (by decide), g (29 + 2) (by decide) (by decide) (by decide) (by decide) (by decide), g (29 + 12) (by decide) (by decide) (by decide) (by decide) (by decide), g (29 + 13) (by decide) (by decide) (by decide) (by decide) (by decide), rdW_B hr hb (by decide), rdW_B hr hb (by decide), rdW_B hr hb (by decide), rdW_B hr hb (by decide), rdW_B hr hb (by decide)]
    exact a10 b hb hb2
theorem Jn_rd {C' : MM} (hJ : JnyR 49 w C) (hW : WF k w) (hr : r < 16) (g : ∀ a, 49 ≤ a → a ≤ 54 → C' a = C a) : JnyR 49 (rdW w r f) C' := by
  obtain ⟨⟨j0, j1, j2, j8⟩, j3, j4, j5, j6, j7, j9, j10, j11, j12⟩ := hJ
  have c0 := hW.1.1
  have c1 := hW.1.2.1
  have c3 := hW.1.2.2.2.1
  have sm : ∀ j, j ≠ 2 → j ≤ 9 → rdW w r f j = w j := fun j a b => rdW_sm a b
  have sb : ∀ (y : Int) i, i < 10 → stB' (rdW w r f) y i = stB' w y i := fun y i hi => by
    unfold stB'
    rw [sm 1 (by decide) (by decide), rdW_T (by omega) (by omega) (by decide) (by decide)]
  have pa : ∀ i, i < 10 → paB (rdW w r f) i = paB w i := fun i hi => by
    unfold paB
    rw [sm 0 (by decide) (by decide), rdW_P (by omega) (by omega) (by decide) (by decide)]
  have fb : ∀ i, frB (rdW w r f) i = frB w i := fun i => by
    unfold frB
    rw [sm 3 (by decide) (by decide), rdW_B hr (by omega) (by decide)]
  have g49 : C' 49 = C 49 := g 49 (by decide) (by decide)
  refine ⟨⟨by rw [g49, sm 7 (by decide) (by decide)]; exact j0, by rw [g49, sm 6 (by decide) (by decide)]; exact j1, by rw [g49, sm 8 (by decide) (by decide)]; exact j2, by rw [g49, sm 9 (by decide) (by decide)]; exact j8⟩, by rw [g49, j3, bset_cg 10 (sb 2)], by rw [g49, j4, bset_cg 10 (sb 3)], by rw [g49, j5, bset_cg 10 (sb 1)], by rw [g49, j6, bset_cg 10 pa], by rw [g49, j7, bset_cg 7 (fun i _ => fb i)], fun i hi hi2 => ?_, fun i hi hi2 => ?_, fun b hb hb2 h5 => ?_, fun q hq hq2 => ?_⟩
  · rw [sm 1 (by decide) (by decide)] at hi2
    rw [g (49 + 1) (by decide) (by decide), rdW_T hi (by omega) (by decide) (by decide)]
    exact j9 i hi hi2
  · rw [sm 1 (by decide) (by decide)] at hi
    rw [g (49 + 1) (by decide) (by decide)]
    exact j10 i hi hi2
  · rw [sm 3 (by decide) (by decide)] at hb2
    rw [rdW_B hr hb (by decide)] at h5 ⊢
    rw [g (49 + 2) (by decide) (by decide)]
    exact j11 b hb hb2 h5
  · rw [sm 9 (by decide) (by decide)] at hq2
    rw [rdW_hi hr (by omega), rdW_hi hr (by omega), rdW_hi hr (by omega), g (49 + 3) (by decide) (by decide), g (49 + 4) (by decide) (by decide), g (49 + 5) (by decide) (by decide)]
    exact j12 q hq hq2
end RoadL
/-- the reference keeps a road -/
theorem road_90 {N : MM} {r p e : Nat} {a b c d : Int} (h2 : N 166 2 = (r : Int)) (hr : r < 16) (hd : 0 ≤ d ∧ d ≤ 1000) : ∃ N', mo_readRoad_J90 (130 + (4 * (r : Int))) a b c d (nT N p e) = some (rI 1, nT N' p e) ∧ N' 166 = rdW (N 166) r (fun j => if j = 0 then a else if j = 1 then b else if j = 2 then c else d) ∧ ∀ a, a ≠ 166 → N' a = N a := by
  refine ⟨mU (mU (mU (mU (mU N 166 (130 + 4 * r) a) 166 (130 + 4 * r + 1) b) 166 (130 + 4 * r + 2) c) 166 (130 + 4 * r + 3) d) 166 2 ((r : Int) + 1), ?_, ?_, fun a ha => by rw [mU_ne ha, mU_ne ha, mU_ne ha, mU_ne ha, mU_ne ha]⟩
  · unfold mo_readRoad_J90
    rw [bq_ge (by omega) (by decide), if_pos hd.1, bq_in (by omega) (by omega), sM_eq, show (130 + 4 * (r : Int)).toNat = 130 + 4 * r by omega, nT_u (by decide), bq_in (by omega) (by omega), sM_eq, show (130 + 4 * (r : Int) + 1).toNat = 130 + 4 * r + 1 by omega, nT_u (by decide), bq_in (by omega) (by omega), sM_eq, show (130 + 4 * (r : Int) + 2).toNat = 130 + 4 * r + 2 by omega, nT_u (by decide), bq_in (by omega) (by omega), sM_eq, show (130 + 4 * (r : Int) + 3).toNat = 130 + 4 * r + 3 by omega, nT_u (by decide), bq_in (by decide) (by decide), bq_in (by decide) (by decide), sM_eq, nT_ne (show 166 ≠ 165 by decide), nT_u (by decide)]
    have e : (mU (mU (mU (mU N 166 (130 + 4 * r) a) 166 (130 + 4 * r + 1) b) 166 (130 + 4 * r + 2) c) 166 (130 + 4 * r + 3) d) 166 2 = (r : Int) := by
      rw [mU_ap, if_pos rfl, if_neg (by omega), mU_ap, if_pos rfl, if_neg (by omega), mU_ap, if_pos rfl, if_neg (by omega), mU_ap, if_pos rfl, if_neg (by omega), h2]
    rw [e]
  · funext j
    unfold rdW blW
    rw [mU_ap, if_pos rfl, mU_ap, if_pos rfl, mU_ap, if_pos rfl, mU_ap, if_pos rfl, mU_ap, if_pos rfl]
    by_cases h1 : j = 2
    · rw [if_pos h1, if_pos h1]
    · rw [if_neg h1, if_neg h1]
      by_cases hb : 130 + 4 * r ≤ j ∧ j < 130 + 4 * r + 4
      · rw [if_pos hb]
        show _ = (if j - (130 + 4 * r) = 0 then a else if j - (130 + 4 * r) = 1 then b else if j - (130 + 4 * r) = 2 then c else d)
        by_cases k3 : j = 130 + 4 * r + 3
        · rw [if_pos k3, if_neg (by omega), if_neg (by omega), if_neg (by omega)]
        · rw [if_neg k3]
          by_cases k2 : j = 130 + 4 * r + 2
          · rw [if_pos k2, if_neg (by omega), if_neg (by omega), if_pos (by omega)]
          · rw [if_neg k2]
            by_cases k1 : j = 130 + 4 * r + 1
            · rw [if_pos k1, if_neg (by omega), if_pos (by omega)]
            · rw [if_neg k1, if_pos (by omega), if_pos (by omega)]
      · rw [if_neg hb, if_neg (by omega), if_neg (by omega), if_neg (by omega), if_neg (by omega)]
def rdC (C : MM) (r : Nat) (a b c d : Int) : MM := mU (mU (mU (mU (mU C 37 (2 * r) a) 37 (2 * r + 1) b) 38 r c) 39 r d) 29 2 ((r : Int) + 1)
theorem rdC_fr {C : MM} {r : Nat} {a b c d : Int} : FrT C (rdC C r a b c d) := FrT.tr (FrT.tr (FrT.tr (FrT.tr (FrT.u (by omega)) (FrT.u (by omega))) (FrT.u (by omega))) (FrT.u (by omega))) (FrT.u (by omega))
theorem Dr_rd {C N N' : MM} {k r : Nat} {a b c d : Int} (hD : DrT k C N) (h2 : N 166 2 = (r : Int)) (hr : r < 16) (ha : 0 ≤ a ∧ a < N 166 0) (hb : 0 ≤ b ∧ b < N 166 0) (hab : a ≠ b) (hc : 1 ≤ c ∧ c ≤ 9) (hd : 1 ≤ d ∧ d ≤ 100) (hN : N' 166 = rdW (N 166) r (fun j => if j = 0 then a else if j = 1 then b else if j = 2 then c else d)) : DrT k (rdC C r a b c d) N' := by
  obtain ⟨hL, hJ, hW⟩ := hD
  refine ⟨?_, ?_, ?_⟩
  · rw [hN]
    refine La_rd hL hW h2 hr (fun j hj => ?_) ?_ (fun x h1 h3 n7 n8 n9 => ?_) (fun j => ?_) (fun j => ?_) (fun j => ?_)
    · unfold rdC
      rw [mU_ap, if_pos rfl, if_neg hj, mU_ne (by decide), mU_ne (by decide), mU_ne (by decide), mU_ne (by decide)]
    · unfold rdC
      rw [mU_ap, if_pos rfl, if_pos rfl]
    · unfold rdC
      rw [mU_ne (by omega), mU_ne n9, mU_ne n8, mU_ne n7, mU_ne n7]
    · unfold rdC
      rw [mU_ne (by decide), mU_ne (by decide), mU_ne (by decide), mU_ap, if_pos rfl, mU_ap, if_pos rfl]
      by_cases e : j = 2 * r
      · rw [if_neg (by omega), if_pos e, if_pos e]; rfl
      · rw [if_neg e, if_neg e]; rfl
    · unfold rdC
      rw [mU_ne (by decide), mU_ne (by decide), mU_ap, if_pos rfl, mU_ne (by decide), mU_ne (by decide)]; rfl
    · unfold rdC
      rw [mU_ne (by decide), mU_ap, if_pos rfl, mU_ne (by decide), mU_ne (by decide), mU_ne (by decide)]; rfl
  · rw [hN]
    refine Jn_rd hJ hW hr (fun x h1 h3 => ?_)
    unfold rdC
    rw [mU_ne (by omega), mU_ne (by omega), mU_ne (by omega), mU_ne (by omega), mU_ne (by omega)]
  · rw [hN]
    exact WF_rd hW h2 hr ha hb hab hc hd
