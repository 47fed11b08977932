/-! ===== GATE, the reference: all orders one behind another ===== -/
def RLst (o : List Nat) (M : MM) : Prop := ∀ j, j < o.length → M 178 j = lsG o j
def descL (T : List Nat) : Prop := ∀ j, j + 1 < T.length → lsG T (j + 1) < lsG T j
theorem desc_rev {l : List Nat} (h : l.Pairwise (· < ·)) : descL l.reverse := by
  intro j hj
  rw [List.length_reverse] at hj
  rw [lsG_rev (by omega), lsG_rev (by omega), lsG_g (by omega), lsG_g (by omega)]
  have := List.pairwise_iff_getElem.mp h (l.length - 1 - (j + 1)) (l.length - 1 - j) (by omega) (by omega) (by omega)
  omega
theorem lsG_I {o : List Nat} (h : ∀ b, b ∈ o → b < 7) (j : Nat) (hj : j < o.length) : I32 (lsG o j) := by
  obtain ⟨a, ha, e⟩ := lsG_mem hj
  rw [e]
  have := h a ha
  omega
theorem mid_lt {D E : List Nat} {b b' : Nat} (hD : ∀ d, d ∈ D → b < d) (hb : b < b') : ∀ x, x ≤ D.length → (b : Int) < lsG (D ++ b' :: E) x := by
  intro x hx
  by_cases h : x < D.length
  · rw [lsG_l h]
    obtain ⟨a, ha, e⟩ := lsG_mem h
    rw [e]
    have := hD a ha
    omega
  · obtain rfl : x = D.length := by omega
    rw [lsG_r (Nat.le_refl _), Nat.sub_self, lsG_0]
    omega
theorem mid_gt {D E : List Nat} {b b' : Nat} (hE : ∀ d, d ∈ E → d < b) : ∀ x, D.length < x → x < (D ++ b' :: E).length → lsG (D ++ b' :: E) x < (b : Int) := by
  intro x hx hl
  rw [List.length_append, List.length_cons] at hl
  rw [lsG_r (by omega), show x - D.length = (x - D.length - 1) + 1 by omega, lsG_s]
  obtain ⟨a, ha, e⟩ := lsG_mem (l := E) (j := x - D.length - 1) (by omega)
  rw [e]
  have := hE a ha
  omega
theorem mid_sw {D E : List Nat} {b b' x : Nat} : lsG (D ++ b :: E) x = if x = D.length then (b : Int) else lsG (D ++ b' :: E) x := by
  by_cases h : x < D.length
  · rw [if_neg (by omega), lsG_l h, lsG_l h]
  · rw [lsG_r (by omega), lsG_r (by omega)]
    by_cases h2 : x = D.length
    · rw [if_pos h2, h2, Nat.sub_self, lsG_0]
    · rw [if_neg h2, show x - D.length = (x - D.length - 1) + 1 by omega, lsG_s, lsG_s]
theorem next_list {M : MM} {pre A B : List Nat} {b b' n : Nat} (hs : (A ++ b :: b' :: B).Pairwise (· < ·)) (h7 : ∀ c, c ∈ pre ++ (A ++ b :: b' :: B) → c < 7) (hn : n = (pre ++ (A ++ b :: b' :: B)).length) (hn7 : n ≤ 7) (hM : RLst (pre ++ b :: (A ++ b' :: B).reverse) M) : ∃ M', mo_nextOrder (n : Int) M = some (rI 1, M') ∧ (∀ p, p ≠ 178 → M' p = M p) ∧ RLst (pre ++ b' :: (A ++ b :: B)) M' := by
  have hs2 := List.pairwise_append.mp hs
  have hs3 := List.pairwise_cons.mp hs2.2.1
  have hs4 := List.pairwise_cons.mp hs3.2
  have hdel : (A ++ b' :: B).Pairwise (· < ·) := List.pairwise_append.mpr ⟨hs2.1, hs3.2, fun a ha c hc => hs2.2.2 a ha c (List.mem_cons_of_mem _ hc)⟩
  have hT := desc_rev hdel
  have eT : (A ++ b' :: B).reverse = B.reverse ++ b' :: A.reverse := by simp
  have eT2 : (A ++ b :: B).reverse = B.reverse ++ b :: A.reverse := by simp
  have hbb : b < b' := hs3.1 b' (List.mem_cons_self ..)
  have hlen : (A ++ b' :: B).reverse.length = A.length + B.length + 1 := by simp; omega
  have hlen2 : (A ++ b :: B).length = A.length + B.length + 1 := by simp; omega
  have hnn : n = pre.length + 1 + (A.length + B.length + 1) := by rw [hn]; simp; omega
  have lt1 := mid_lt (D := B.reverse) (E := A.reverse) (b := b) (b' := b') (fun d hd => Nat.lt_trans hbb (hs4.1 d (List.mem_reverse.mp hd))) hbb
  have gt1 := mid_gt (D := B.reverse) (E := A.reverse) (b := b) (b' := b') (fun d hd => hs2.2.2 d (List.mem_reverse.mp hd) b (List.mem_cons_self ..))
  rw [← eT] at lt1 gt1
  rw [List.length_reverse] at lt1 gt1
  have ph : ∀ j, j < n → M 178 j = if j < pre.length then lsG pre j else if j = pre.length then (b : Int) else lsG (A ++ b' :: B).reverse (j - (pre.length + 1)) := by
    intro j hj
    rw [hM j (by rw [List.length_append, List.length_cons, hlen]; omega)]
    by_cases h1 : j < pre.length
    · rw [if_pos h1, lsG_l h1]
    · rw [if_neg h1, lsG_r (by omega)]
      by_cases h2 : j = pre.length
      · rw [if_pos h2, h2, Nat.sub_self, lsG_0]
      · rw [if_neg h2, show j - pre.length = (j - (pre.length + 1)) + 1 by omega, lsG_s]
  have ph0 : M 178 pre.length = (b : Int) := by rw [ph _ (by omega), if_neg (by omega), if_pos rfl]
  have ph1 : ∀ x, x < A.length + B.length + 1 → M 178 (pre.length + 1 + x) = lsG (A ++ b' :: B).reverse x := fun x hx => by
    rw [ph _ (by omega), if_neg (by omega), if_neg (by omega), show pre.length + 1 + x - (pre.length + 1) = x by omega]
  have hI : ∀ j, j < n → I32 (M 178 j) := fun j hj => by
    rw [hM j (by rw [List.length_append, List.length_cons, hlen]; omega)]
    refine lsG_I (fun c hc => h7 c ?_) j (by rw [List.length_append, List.length_cons, hlen]; omega)
    simp only [List.mem_append, List.mem_cons, List.mem_reverse] at hc ⊢
    rcases hc with g | g | g | g | g
    · exact Or.inl g
    · exact Or.inr (Or.inr (Or.inl g))
    · exact Or.inr (Or.inl g)
    · exact Or.inr (Or.inr (Or.inr (Or.inl g)))
    · exact Or.inr (Or.inr (Or.inr (Or.inr g)))
  obtain ⟨M', q1, q2, q3⟩ := next_some (M := M) (i := pre.length) (n := n) (k := pre.length + 1 + B.length) hn7 hI (fun j h1 h2 => by
    have := hT (j - (pre.length + 1)) (by omega)
    rw [← ph1 _ (by omega), ← ph1 _ (by omega), show pre.length + 1 + (j - (pre.length + 1)) = j by omega, show pre.length + 1 + (j - (pre.length + 1) + 1) = j + 1 by omega] at this
    exact this) (by rw [ph0, show pre.length + 1 = pre.length + 1 + 0 by omega, ph1 0 (by omega)]; exact lt1 0 (by omega)) (by omega) (by rw [ph0, ph1 _ (by omega)]; exact lt1 _ (Nat.le_refl _)) (fun j h1 h2 => by
    have := gt1 (j - (pre.length + 1)) (by omega) (by omega)
    rw [← ph1 _ (by omega), show pre.length + 1 + (j - (pre.length + 1)) = j by omega] at this
    rw [ph0]
    exact this)
  refine ⟨M', q1, q2, fun j hj => ?_⟩
  have hj' : j < n := by rw [List.length_append, List.length_cons, hlen2] at hj; omega
  rw [q3 j hj']
  by_cases h1 : j < pre.length
  · rw [if_pos h1, lsG_l h1, ph j hj', if_pos h1]
  · rw [if_neg h1, lsG_r (by omega)]
    by_cases h2 : j = pre.length
    · rw [if_pos h2, h2, Nat.sub_self, lsG_0, ph1 _ (by omega), eT, lsG_r (by rw [List.length_reverse]; exact Nat.le_refl _), List.length_reverse, Nat.sub_self, lsG_0]
    · rw [if_neg h2, show j - pre.length = (j - (pre.length + 1)) + 1 by omega, lsG_s]
      have e1 : lsG (A ++ b :: B) (j - (pre.length + 1)) = lsG (A ++ b :: B).reverse (A.length + B.length - (j - (pre.length + 1))) := by
        rw [lsG_rev (by omega), hlen2]
        congr 1
        omega
      rw [e1, eT2, mid_sw (b' := b'), ← eT, List.length_reverse, show pre.length + n - j = pre.length + 1 + (A.length + B.length - (j - (pre.length + 1))) by omega, ph0, ph1 _ (by omega)]
      by_cases h3 : A.length + B.length - (j - (pre.length + 1)) = B.length
      · rw [if_pos h3, if_pos (by omega)]
      · rw [if_neg h3, if_neg (by omega)]
