/-! ===== PAY ===== -/
theorem cnt_ins {f g : Nat → Bool} {p : Nat} (hf : f p = false) (hg : ∀ i, g i = (f i || decide (i = p))) : ∀ n, cnt g n = cnt f n + (if p < n then 1 else 0)
  | 0 => rfl
  | n + 1 => by
    show cnt g n + (bif g n then 1 else 0) = cnt f n + (bif f n then 1 else 0) + _
    rw [cnt_ins hf hg n, hg n]
    by_cases h : n = p
    · subst h
      rw [hf, decide_eq_true rfl, if_neg (Nat.lt_irrefl n), if_pos (Nat.lt_succ_self n)]; rfl
    · rw [decide_eq_false h, Bool.or_false]
      by_cases h2 : p < n
      · rw [if_pos h2, if_pos (by omega)]; omega
      · rw [if_neg h2, if_neg (by omega), Nat.add_zero, Nat.add_zero]
theorem cnt_lt {f : Nat → Bool} {p : Nat} (hf : f p = false) : ∀ n, p < n → cnt f n < n
  | 0, h => absurd h (by omega)
  | n + 1, h => by
    show cnt f n + (bif f n then 1 else 0) < n + 1
    by_cases h2 : n = p
    · subst h2
      have := cnt_le f n
      rw [hf]
      show cnt f n + 0 < n + 1
      omega
    · have := cnt_lt hf n (by omega)
      cases f n with
      | true => show cnt f n + 1 < _; omega
      | false => show cnt f n + 0 < _; omega
-- what is carried before the gift, whether there is room, the new state of a thing
def pyC (w : Nat → Int) (p t i : Nat) : Bool := stB' w 2 i && !(decide (oP w (p : Int) 5 = 1) && decide (i = t))
def pyR (w : Nat → Int) (p t : Nat) : Bool := decide (cnt (bset 10 (pyC w p t)).testBit 10 < 4)
def pyS (w : Nat → Int) (p t i : Nat) : Int := if (i : Int) = oP w (p : Int) 6 then (bif pyR w p t then 2 else 0) else if i = t ∧ oP w (p : Int) 5 = 1 then 3 else w (92 + 4 * i)
def pyW (w : Nat → Int) (p t : Nat) (j : Nat) : Int := if j = 9 then w 9 + 1 else if j = 236 + 3 * (w 9).toNat then (p : Int) else if j = 237 + 3 * (w 9).toNat then (t : Int) else if j = 238 + 3 * (w 9).toNat then w 6 else if j = 17 + 8 * p then 1 else if 92 ≤ j ∧ (j - 92) % 4 = 0 ∧ (((j - 92) / 4 : Nat) : Int) < w 1 then pyS w p t ((j - 92) / 4) else w j
theorem pay_row {k p t : Nat} {w : Nat → Int} (hk : k ≤ 511) (hW : WF k w) (hp : w 7 = p) (hp0 : w 7 < w 0) (ht : (t : Int) < w 1) (hk1 : oP w (p : Int) 0 = 1) (h7 : oP w (p : Int) 7 = 0) (h2 : w (92 + 4 * t) = 2) :
    (w 9 < 10 ∧ (∀ g : Nat, (g : Int) = oP w (p : Int) 6 → w (92 + 4 * g) = 1)) ∧ (∀ i : Nat, (i : Int) < w 1 → pyW w p t (92 + 4 * i) = pyS w p t i) ∧ WF (k + 1) (pyW w p t) ∧ StEq w (pyW w p t) ∧ (∀ j, j ≠ 9 → j ≠ 236 + 3 * (w 9).toNat → j ≠ 237 + 3 * (w 9).toNat → j ≠ 238 + 3 * (w 9).toNat → j ≠ 17 + 8 * p → (∀ i : Nat, (i : Int) < w 1 → j ≠ 92 + 4 * i) → pyW w p t j = w j) := by
  obtain ⟨c0, c1, c2, c3, c4, c5, c6, c7, c8, c9, c10⟩ := hW.1
  obtain ⟨l1, l2⟩ := hW.2.2.2.2.2.2
  have pf : paB w p = false := by
    unfold paB
    rw [h7]; simp
  have hlt : cnt (paB w) 10 < 10 := cnt_lt pf 10 (by omega)
  have h9 : w 9 < 10 := by omega
  have hg1 : ∀ g : Nat, (g : Int) = oP w (p : Int) 6 → w (92 + 4 * g) = 1 := fun g hg => by
    have := ((hW.2.2.2.2.2.1.1 p (by omega) (by omega) (by omega)).1).mp h7
    rw [← hg, oT_c2] at this
    exact this
  have hth : ∀ i : Nat, (i : Int) < w 1 → pyW w p t (92 + 4 * i) = pyS w p t i := fun i hi => by
    unfold pyW
    rw [if_neg (by omega), if_neg (by omega), if_neg (by omega), if_neg (by omega), if_neg (by omega), if_pos ⟨by omega, by omega, by omega⟩, show (92 + 4 * i - 92) / 4 = i by omega]
  have hoth : ∀ j, j ≠ 9 → j ≠ 236 + 3 * (w 9).toNat → j ≠ 237 + 3 * (w 9).toNat → j ≠ 238 + 3 * (w 9).toNat → j ≠ 17 + 8 * p → (∀ i : Nat, (i : Int) < w 1 → j ≠ 92 + 4 * i) → pyW w p t j = w j := fun j a b c d e f => by
    unfold pyW
    rw [if_neg a, if_neg b, if_neg c, if_neg d, if_neg e, if_neg (fun g => f _ g.2.2 (by omega))]
  have h17 : pyW w p t (17 + 8 * p) = 1 := by
    unfold pyW
    rw [if_neg (by omega), if_neg (by omega), if_neg (by omega), if_neg (by omega), if_pos rfl]
  have hlo : ∀ j, j < 92 → j ≠ 9 → j ≠ 17 + 8 * p → pyW w p t j = w j := fun j a b c => hoth j b (by omega) (by omega) (by omega) c (fun i hi => by omega)
  have v9 : pyW w p t 9 = w 9 + 1 := by unfold pyW; rw [if_pos rfl]
  have hhi : ∀ j, 132 ≤ j → j < 236 → pyW w p t j = w j := fun j a b => hoth j (by omega) (by omega) (by omega) (by omega) (by omega) (fun i hi => by omega)
  have eT : ∀ u j : Int, 0 ≤ u → u < w 1 → 0 ≤ j → j ≤ 3 → j ≠ 2 → oT (pyW w p t) u j = oT w u j := fun u j a b c d e => hoth _ (by omega) (by omega) (by omega) (by omega) (by omega) (fun i hi => by omega)
  have eT2 : ∀ i : Nat, (i : Int) < w 1 → oT (pyW w p t) (i : Int) 2 = pyS w p t i := fun i hi => by rw [oT_c2]; exact hth i hi
  have eP7 : ∀ q : Int, 0 ≤ q → q < w 0 → q ≠ (p : Int) → oP (pyW w p t) q 7 = oP w q 7 := fun q a b c => hlo _ (by omega) (by omega) (by omega)
  have eR : ∀ r j : Int, 0 ≤ r → r < w 2 → 0 ≤ j → j ≤ 3 → oR (pyW w p t) r j = oR w r j := fun r j a b c d => hoth _ (by omega) (by omega) (by omega) (by omega) (by omega) (fun i hi => by omega)
  have hS : StEq w (pyW w p t) := ⟨fun k hk => hlo k (by omega) (by omega) (by omega), fun q j a b c d => hlo _ (by omega) (by omega) (by omega), fun u j a b c d => eT u j a b c (by omega) (by omega), eR, fun b j a b' c d => hhi _ (by omega) (by omega)⟩
  have pSb : ∀ i : Nat, (i : Int) < w 1 → 0 ≤ pyS w p t i ∧ pyS w p t i ≤ 3 := fun i hi => by
    have := (hW.2.2.1 i (by omega) hi).2.2.1
    rw [oT_c2] at this
    unfold pyS
    split
    · cases pyR w p t <;> decide
    · split
      · decide
      · exact this
  refine ⟨⟨h9, hg1⟩, hth, WF_act hW hS (by rw [hlo 6 (by decide) (by decide) (by omega)]; omega) (by rw [hlo 7 (by decide) (by decide) (by omega)]; exact c7) (by rw [hlo 8 (by decide) (by decide) (by omega)]; exact c8) (by rw [v9]; omega) (fun q g0 g1 => ?_) (fun u g0 g1 => ?_) (fun b g0 g1 => ?_) (fun q g0 g1 g2 => ?_) ?_, hS, hoth⟩
  · obtain ⟨p0, p1, p2, p3, p4, p5, p6, p7⟩ := hW.2.1 q g0 g1
    by_cases hq : q = (p : Int)
    · subst hq
      rw [oP_c7, h17]
      exact ⟨Or.inr rfl, fun g => by omega⟩
    · rw [eP7 q g0 g1 hq]
      exact ⟨p6, fun g => (p7 g).2.2.2.2.2.2⟩
  · obtain ⟨i, rfl⟩ : ∃ n : Nat, u = (n : Int) := ⟨u.toNat, by omega⟩
    rw [eT2 i g1, eT _ 3 g0 g1 (by decide) (by decide) (by decide)]
    exact ⟨pSb i g1, (hW.2.2.1 i g0 g1).2.2.2⟩
  · rw [show oB (pyW w p t) b 5 = oB w b 5 from hhi _ (by omega) (by omega), hlo 6 (by decide) (by decide) (by omega)]
    exact (hW.2.2.2.2.1 b g0 g1).2.2.2.2.2
  · have p5 := (hW.2.1 q g0 g1).2.2.2.2.2.1
    obtain ⟨g, hgq⟩ : ∃ n : Nat, oP w q 6 = (n : Int) := ⟨(oP w q 6).toNat, by omega⟩
    have hgl : (g : Int) < w 1 := by omega
    rw [hgq, eT2 g hgl, eT _ 3 (by omega) hgl (by decide) (by decide) (by decide)]
    by_cases hq : q = (p : Int)
    · subst hq
      rw [oP_c7, h17]
      refine ⟨⟨fun g => absurd g (by decide), fun h => ?_⟩, fun g => absurd g (by decide)⟩
      unfold pyS at h
      rw [if_pos hgq.symm] at h
      cases hr : pyR w p t <;> rw [hr] at h <;> exact absurd h (by decide)
    · obtain ⟨q1, q2⟩ := hW.2.2.2.2.2.1.1 q g0 g1 g2
      have inj := hW.2.2.2.2.2.1.2 q p g0 g1 (by omega) (by omega) g2
      rw [eP7 q g0 g1 hq]
      rw [hgq] at q1 q2 inj
      have hne : ¬ (g : Int) = oP w (p : Int) 6 := fun h => hq (inj h)
      rw [oT_c2] at q1
      have e1 : pyS w p t g = 1 ↔ w (92 + 4 * g) = 1 := by
        unfold pyS
        rw [if_neg hne]
        by_cases hgt : g = t ∧ oP w (p : Int) 5 = 1
        · rw [if_pos hgt, hgt.1, h2]
          constructor <;> intro h <;> exact absurd h (by decide)
        · rw [if_neg hgt]
      exact ⟨q1.trans e1.symm, q2⟩
  · refine ⟨?_, fun q g0 g1 => ?_⟩
    · rw [v9, l1]
      have := cnt_ins (f := paB w) (g := paB (pyW w p t)) (p := p) pf (fun i => ?_) 10
      · rw [if_pos (by omega)] at this
        rw [this]; omega
      · unfold paB
        rw [hlo 0 (by decide) (by decide) (by omega)]
        by_cases hi : i = p
        · subst hi
          rw [oP_c7, h17, decide_eq_true (show (i : Int) < w 0 by omega)]; simp
        · rw [decide_eq_false hi, Bool.or_false]
          by_cases hi0 : (i : Int) < w 0
          · rw [eP7 i (by omega) hi0 (by omega)]
          · rw [decide_eq_false hi0, Bool.false_and, Bool.false_and]
    · rw [v9] at g1
      rw [hlo 6 (by decide) (by decide) (by omega)]
      by_cases hq : q = w 9
      · have a0 : pyW w p t (236 + 3 * (w 9).toNat) = p := by unfold pyW; rw [if_neg (by omega), if_pos rfl]
        have a1 : pyW w p t (237 + 3 * (w 9).toNat) = t := by unfold pyW; rw [if_neg (by omega), if_neg (by omega), if_pos rfl]
        have a2 : pyW w p t (238 + 3 * (w 9).toNat) = w 6 := by unfold pyW; rw [if_neg (by omega), if_neg (by omega), if_neg (by omega), if_pos rfl]
        rw [show (236 + 3 * q + 0).toNat = 236 + 3 * (w 9).toNat by omega, show (236 + 3 * q + 1).toNat = 237 + 3 * (w 9).toNat by omega, show (236 + 3 * q + 2).toNat = 238 + 3 * (w 9).toNat by omega, a0, a1, a2]
        omega
      · rw [hoth _ (by omega) (by omega) (by omega) (by omega) (by omega) (fun i hi => by omega), hoth _ (by omega) (by omega) (by omega) (by omega) (by omega) (fun i hi => by omega), hoth _ (by omega) (by omega) (by omega) (by omega) (by omega) (fun i hi => by omega)]
        exact l2 q g0 (by omega)
