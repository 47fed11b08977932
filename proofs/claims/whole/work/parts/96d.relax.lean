/-! ===== ROUNDS OVER THE ROADS: as many as there are places do ===== -/
theorem pig : ∀ (m n : Nat) (f : Nat → Nat), (∀ i, i < n → f i < m) → (∀ i j, i < n → j < n → f i = f j → i = j) → n ≤ m
  | 0, n, f, h, _ => by
    by_cases hn : n = 0
    · omega
    · exact absurd (h 0 (by omega)) (by omega)
  | m + 1, 0, f, _, _ => by omega
  | m + 1, n + 1, f, h, hi => by
    have hk := h n (by omega)
    have := pig m n (fun i => if f i = m then f n else f i) (fun i hin => by
      have h1 := h i (by omega)
      show (if f i = m then f n else f i) < m
      by_cases he : f i = m
      · rw [if_pos he]
        have : f n ≠ m := fun h2 => absurd (hi i n (by omega) (by omega) (he.trans h2.symm)) (by omega)
        omega
      · rw [if_neg he]; omega) (fun i j hin hjn he => by
      have he' : (if f i = m then f n else f i) = (if f j = m then f n else f j) := he
      by_cases h1 : f i = m
      · by_cases h2 : f j = m
        · exact hi i j (by omega) (by omega) (h1.trans h2.symm)
        · rw [if_pos h1, if_neg h2] at he'
          exact absurd (hi n j (by omega) (by omega) he') (by omega)
      · by_cases h2 : f j = m
        · rw [if_neg h1, if_pos h2] at he'
          exact absurd (hi i n (by omega) (by omega) he') (by omega)
        · rw [if_neg h1, if_neg h2] at he'
          exact hi i j (by omega) (by omega) he')
    omega
def mx (a b : Int) : Int := if a ≤ b then b else a
theorem mx_l (a b : Int) : a ≤ mx a b := by unfold mx; split <;> omega
theorem mx_r (a b : Int) : b ≤ mx a b := by unfold mx; split <;> omega
theorem mx_le {a b c : Int} (h1 : a ≤ c) (h2 : b ≤ c) : mx a b ≤ c := by unfold mx; split <;> assumption
theorem mx_or (a b : Int) : mx a b = a ∨ mx a b = b := by unfold mx; split <;> simp
section Relax
variable {A B : Nat → Nat} {f : Nat → Int → Int} {R P : Nat}
/-- one road, both ways -/
def rx (A B : Nat → Nat) (f : Nat → Int → Int) (r : Nat) (V : Nat → Int) : Nat → Int :=
  up (up V (A r) (mx (V (A r)) (f r (V (B r))))) (B r) (mx (up V (A r) (mx (V (A r)) (f r (V (B r)))) (B r)) (f r (up V (A r) (mx (V (A r)) (f r (V (B r)))) (A r))))
def rnd (A B : Nat → Nat) (f : Nat → Int → Int) (R : Nat) (V : Nat → Int) : Nat → Int := fo (fun r V => rx A B f r V) R 0 V
def rnds (A B : Nat → Nat) (f : Nat → Int → Int) (R : Nat) : Nat → (Nat → Int) → Nat → Int
  | 0, V => V
  | k + 1, V => rnds A B f R k (rnd A B f R V)
theorem rnds_s : ∀ k V, rnds A B f R (k + 1) V = rnd A B f R (rnds A B f R k V)
  | 0, V => rfl
  | k + 1, V => by
    show rnds A B f R (k + 1) (rnd A B f R V) = _
    rw [rnds_s k]; rfl
/-- all roads at once -/
def bst (A B : Nat → Nat) (f : Nat → Int → Int) (R : Nat) (V : Nat → Int) (p : Nat) : Int := fo (fun r x => mx x (mx (if A r = p then f r (V (B r)) else V p) (if B r = p then f r (V (A r)) else V p))) R 0 (V p)
def bf (A B : Nat → Nat) (f : Nat → Int → Int) (R : Nat) (V0 : Nat → Int) : Nat → Nat → Int
  | 0 => V0
  | k + 1 => bst A B f R (bf A B f R V0 k)
theorem bst_inv (V : Nat → Int) (p : Nat) : ∀ n, n ≤ R → V p ≤ fo (fun r x => mx x (mx (if A r = p then f r (V (B r)) else V p) (if B r = p then f r (V (A r)) else V p))) n 0 (V p) ∧ (∀ r, r < n → (A r = p → f r (V (B r)) ≤ fo (fun r x => mx x (mx (if A r = p then f r (V (B r)) else V p) (if B r = p then f r (V (A r)) else V p))) n 0 (V p)) ∧ (B r = p → f r (V (A r)) ≤ fo (fun r x => mx x (mx (if A r = p then f r (V (B r)) else V p) (if B r = p then f r (V (A r)) else V p))) n 0 (V p))) ∧ (fo (fun r x => mx x (mx (if A r = p then f r (V (B r)) else V p) (if B r = p then f r (V (A r)) else V p))) n 0 (V p) = V p ∨ ∃ r, r < n ∧ ((A r = p ∧ fo (fun r x => mx x (mx (if A r = p then f r (V (B r)) else V p) (if B r = p then f r (V (A r)) else V p))) n 0 (V p) = f r (V (B r))) ∨ (B r = p ∧ fo (fun r x => mx x (mx (if A r = p then f r (V (B r)) else V p) (if B r = p then f r (V (A r)) else V p))) n 0 (V p) = f r (V (A r))))) := by
  intro n hn
  induction n with
  | zero => exact ⟨Int.le_refl _, fun r hr => absurd hr (by omega), Or.inl rfl⟩
  | succ n ih =>
    obtain ⟨i1, i2, i3⟩ := ih (by omega)
    rw [fo_s, Nat.zero_add]
    generalize fo (fun r x => mx x (mx (if A r = p then f r (V (B r)) else V p) (if B r = p then f r (V (A r)) else V p))) n 0 (V p) = x at *
    refine ⟨Int.le_trans i1 (mx_l _ _), fun r hr => ?_, ?_⟩
    · by_cases h : r = n
      · subst h
        refine ⟨fun ha => ?_, fun hb => ?_⟩
        · have := Int.le_trans (mx_l (if A r = p then f r (V (B r)) else V p) (if B r = p then f r (V (A r)) else V p)) (mx_r x _)
          rw [if_pos ha] at this
          rw [if_pos ha]
          exact this
        · have := Int.le_trans (mx_r (if A r = p then f r (V (B r)) else V p) (if B r = p then f r (V (A r)) else V p)) (mx_r x _)
          rw [if_pos hb] at this
          rw [if_pos hb]
          exact this
      · obtain ⟨j1, j2⟩ := i2 r (by omega)
        exact ⟨fun ha => Int.le_trans (j1 ha) (mx_l _ _), fun hb => Int.le_trans (j2 hb) (mx_l _ _)⟩
    · rcases mx_or x (mx (if A n = p then f n (V (B n)) else V p) (if B n = p then f n (V (A n)) else V p)) with h | h
      · rw [h]
        rcases i3 with i3 | ⟨r, hr, i3⟩
        · exact Or.inl i3
        · exact Or.inr ⟨r, by omega, i3⟩
      · rw [h]
        rcases mx_or (if A n = p then f n (V (B n)) else V p) (if B n = p then f n (V (A n)) else V p) with h2 | h2
        · rw [h2]
          by_cases ha : A n = p
          · rw [if_pos ha]; exact Or.inr ⟨n, by omega, Or.inl ⟨ha, rfl⟩⟩
          · rw [if_neg ha]; exact Or.inl rfl
        · rw [h2]
          by_cases hb : B n = p
          · rw [if_pos hb]; exact Or.inr ⟨n, by omega, Or.inr ⟨hb, rfl⟩⟩
          · rw [if_neg hb]; exact Or.inl rfl
theorem bst_ge (V : Nat → Int) (p : Nat) : V p ≤ bst A B f R V p := (bst_inv V p R (Nat.le_refl _)).1
theorem bst_A {V : Nat → Int} {r : Nat} (hr : r < R) : f r (V (B r)) ≤ bst A B f R V (A r) := ((bst_inv V (A r) R (Nat.le_refl _)).2.1 r hr).1 rfl
theorem bst_B {V : Nat → Int} {r : Nat} (hr : r < R) : f r (V (A r)) ≤ bst A B f R V (B r) := ((bst_inv V (B r) R (Nat.le_refl _)).2.1 r hr).2 rfl
theorem bst_or (V : Nat → Int) (p : Nat) : bst A B f R V p = V p ∨ ∃ q r, r < R ∧ ((A r = p ∧ q = B r) ∨ (B r = p ∧ q = A r)) ∧ bst A B f R V p = f r (V q) := by
  rcases (bst_inv (A := A) (B := B) (f := f) V p R (Nat.le_refl _)).2.2 with h | ⟨r, hr, ⟨h1, h2⟩ | ⟨h1, h2⟩⟩
  · exact Or.inl h
  · exact Or.inr ⟨B r, r, hr, Or.inl ⟨h1, rfl⟩, h2⟩
  · exact Or.inr ⟨A r, r, hr, Or.inr ⟨h1, rfl⟩, h2⟩
theorem bst_mono (hm : ∀ r x y, x ≤ y → f r x ≤ f r y) {V W : Nat → Int} (h : ∀ p, V p ≤ W p) (p : Nat) : bst A B f R V p ≤ bst A B f R W p := by
  rcases bst_or (A := A) (B := B) (f := f) (R := R) V p with e | ⟨q, r, hr, hq, e⟩
  · rw [e]; exact Int.le_trans (h p) (bst_ge W p)
  · rw [e]
    refine Int.le_trans (hm r _ _ (h q)) ?_
    rcases hq with ⟨h1, h2⟩ | ⟨h1, h2⟩
    · subst h1; subst h2; exact bst_A hr
    · subst h1; subst h2; exact bst_B hr
theorem bf_up (V0 : Nat → Int) (p : Nat) : ∀ j i, i ≤ j → bf A B f R V0 i p ≤ bf A B f R V0 j p
  | 0, i, h => by
    obtain rfl : i = 0 := by omega
    exact Int.le_refl _
  | j + 1, i, h => by
    by_cases hi : i = j + 1
    · subst hi; exact Int.le_refl _
    · exact Int.le_trans (bf_up V0 p j i (by omega)) (bst_ge _ p)
/-- who gets better in the k-th step tells a chain of k more -/
theorem bf_chain (hd : ∀ r x, f r x ≤ x) (hAB : ∀ r, r < R → A r < P ∧ B r < P) (hm : ∀ r x y, x ≤ y → f r x ≤ f r y) (V0 : Nat → Int) : ∀ k p, p < P → bf A B f R V0 k p < bf A B f R V0 (k + 1) p → ∃ c : Nat → Nat, c (k + 1) = p ∧ (∀ i, i ≤ k + 1 → c i < P) ∧ (∀ i, i ≤ k → bf A B f R V0 i (c (i + 1)) < bf A B f R V0 (i + 1) (c (i + 1))) ∧ ∀ i, i ≤ k → bf A B f R V0 (i + 1) (c (i + 1)) ≤ bf A B f R V0 i (c i)
  | 0, p, hp, h => by
    rcases bst_or (A := A) (B := B) (f := f) (R := R) V0 p with e | ⟨q, r, hr, hq, e⟩
    · exact absurd h (by rw [show bf A B f R V0 (0 + 1) p = bst A B f R V0 p from rfl, e]; exact Int.lt_irrefl _)
    · have hqP : q < P := by rcases hq with ⟨_, h2⟩ | ⟨_, h2⟩ <;> rw [h2] <;> first | exact (hAB r hr).2 | exact (hAB r hr).1
      refine ⟨fun i => if i = 0 then q else p, rfl, fun i hi => ?_, fun i hi => ?_, fun i hi => ?_⟩
      · show (if i = 0 then q else p) < P
        split <;> assumption
      · obtain rfl : i = 0 := by omega
        exact h
      · obtain rfl : i = 0 := by omega
        show bst A B f R V0 p ≤ V0 q
        rw [e]; exact hd r _
  | k + 1, p, hp, h => by
    rcases bst_or (A := A) (B := B) (f := f) (R := R) (bf A B f R V0 (k + 1)) p with e | ⟨q, r, hr, hq, e⟩
    · exact absurd h (by rw [show bf A B f R V0 (k + 1 + 1) p = bst A B f R (bf A B f R V0 (k + 1)) p from rfl, e]; exact Int.lt_irrefl _)
    · have hqP : q < P := by rcases hq with ⟨_, h2⟩ | ⟨_, h2⟩ <;> rw [h2] <;> first | exact (hAB r hr).2 | exact (hAB r hr).1
      have hql : bf A B f R V0 k q < bf A B f R V0 (k + 1) q := by
        by_cases hc : bf A B f R V0 k q < bf A B f R V0 (k + 1) q
        · exact hc
        · have heq : bf A B f R V0 (k + 1) q ≤ bf A B f R V0 k q := by omega
          have h1 : bf A B f R V0 (k + 1 + 1) p ≤ bf A B f R V0 (k + 1) p := by
            rw [show bf A B f R V0 (k + 1 + 1) p = bst A B f R (bf A B f R V0 (k + 1)) p from rfl, e]
            refine Int.le_trans (hm r _ _ heq) ?_
            rcases hq with ⟨h1, h2⟩ | ⟨h1, h2⟩
            · subst h1; subst h2; exact bst_A hr
            · subst h1; subst h2; exact bst_B hr
          exact absurd h (by omega)
      obtain ⟨c, c1, c2, c3, c4⟩ := bf_chain hd hAB hm V0 k q hqP hql
      refine ⟨fun i => if i = k + 1 + 1 then p else c i, if_pos rfl, fun i hi => ?_, fun i hi => ?_, fun i hi => ?_⟩
      · show (if i = k + 1 + 1 then p else c i) < P
        by_cases hik : i = k + 1 + 1
        · rw [if_pos hik]; exact hp
        · rw [if_neg hik]; exact c2 i (by omega)
      · show bf A B f R V0 i (if i + 1 = k + 1 + 1 then p else c (i + 1)) < bf A B f R V0 (i + 1) (if i + 1 = k + 1 + 1 then p else c (i + 1))
        by_cases hik : i + 1 = k + 1 + 1
        · obtain rfl : i = k + 1 := by omega
          rw [if_pos rfl]; exact h
        · rw [if_neg hik]; exact c3 i (by omega)
      · show bf A B f R V0 (i + 1) (if i + 1 = k + 1 + 1 then p else c (i + 1)) ≤ bf A B f R V0 i (if i = k + 1 + 1 then p else c i)
        rw [if_neg (show ¬ i = k + 1 + 1 by omega)]
        by_cases hik : i + 1 = k + 1 + 1
        · obtain rfl : i = k + 1 := by omega
          rw [if_pos rfl, c1, show bf A B f R V0 (k + 1 + 1) p = bst A B f R (bf A B f R V0 (k + 1)) p from rfl, e]
          exact hd r _
        · rw [if_neg hik]; exact c4 i (by omega)
theorem bf_stop (hd : ∀ r x, f r x ≤ x) (hAB : ∀ r, r < R → A r < P ∧ B r < P) (hm : ∀ r x y, x ≤ y → f r x ≤ f r y) (V0 : Nat → Int) (k p : Nat) (hp : p < P) (h : bf A B f R V0 k p < bf A B f R V0 (k + 1) p) : k + 2 ≤ P := by
  obtain ⟨c, c1, c2, c3, c4⟩ := bf_chain hd hAB hm V0 k p hp h
  have dn : ∀ j i, i ≤ j → j ≤ k + 1 → bf A B f R V0 j (c j) ≤ bf A B f R V0 i (c i) := by
    intro j
    induction j with
    | zero =>
      intro i h1 _
      obtain rfl : i = 0 := by omega
      exact Int.le_refl _
    | succ j ih =>
      intro i h1 h2
      by_cases hi : i = j + 1
      · subst hi; exact Int.le_refl _
      · exact Int.le_trans (c4 j (by omega)) (ih i (by omega) (by omega))
  have lt : ∀ i j, i < j → j ≤ k + 1 → c i ≠ c j := fun i j h1 h2 he => by
    have a := dn j i (by omega) h2
    obtain ⟨j', rfl⟩ : ∃ j', j = j' + 1 := ⟨j - 1, by omega⟩
    have b := c3 j' (by omega)
    have d := bf_up (A := A) (B := B) (f := f) (R := R) V0 (c (j' + 1)) j' i (by omega)
    rw [he] at a
    omega
  exact pig P (k + 2) c (fun i hi => c2 i (by omega)) (fun i j hi hj he => by
    rcases Nat.lt_trichotomy i j with h1 | h1 | h1
    · exact absurd he (lt i j h1 (by omega))
    · exact h1
    · exact absurd he.symm (lt j i h1 (by omega)))
theorem rx_ge (V : Nat → Int) (r p : Nat) : V p ≤ rx A B f r V p := by
  unfold rx
  have h1 : ∀ q, V q ≤ up V (A r) (mx (V (A r)) (f r (V (B r)))) q := fun q => by
    by_cases h : q = A r
    · subst h; rw [up_eq]; exact mx_l _ _
    · rw [up_ne h]; exact Int.le_refl _
  by_cases h : p = B r
  · subst h; rw [up_eq]; exact Int.le_trans (h1 _) (mx_l _ _)
  · rw [up_ne h]; exact h1 p
theorem rx_le (hm : ∀ r x y, x ≤ y → f r x ≤ f r y) {V X : Nat → Int} {r : Nat} (h : ∀ p, V p ≤ X p) (hA : f r (X (B r)) ≤ X (A r)) (hB : f r (X (A r)) ≤ X (B r)) (p : Nat) : rx A B f r V p ≤ X p := by
  have h1 : ∀ q, up V (A r) (mx (V (A r)) (f r (V (B r)))) q ≤ X q := fun q => by
    by_cases hq : q = A r
    · subst hq; rw [up_eq]; exact mx_le (h _) (Int.le_trans (hm r _ _ (h _)) hA)
    · rw [up_ne hq]; exact h q
  unfold rx
  by_cases hp : p = B r
  · subst hp; rw [up_eq]; exact mx_le (h1 _) (Int.le_trans (hm r _ _ (h1 _)) hB)
  · rw [up_ne hp]; exact h1 p
theorem rnd_ge (hm : ∀ r x y, x ≤ y → f r x ≤ f r y) (V : Nat → Int) : ∀ n, n ≤ R → (∀ p, V p ≤ fo (fun r V => rx A B f r V) n 0 V p) ∧ ∀ r, r < n → f r (V (B r)) ≤ fo (fun r V => rx A B f r V) n 0 V (A r) ∧ f r (V (A r)) ≤ fo (fun r V => rx A B f r V) n 0 V (B r) := by
  intro n hn
  induction n with
  | zero => exact ⟨fun p => Int.le_refl _, fun r hr => absurd hr (by omega)⟩
  | succ n ih =>
    obtain ⟨i1, i2⟩ := ih (by omega)
    rw [fo_s, Nat.zero_add]
    generalize fo (fun r V => rx A B f r V) n 0 V = W at *
    refine ⟨fun p => Int.le_trans (i1 p) (rx_ge W n p), fun r hr => ?_⟩
    by_cases h : r = n
    · subst h
      have gA : f r (W (B r)) ≤ up W (A r) (mx (W (A r)) (f r (W (B r)))) (A r) := by rw [up_eq]; exact mx_r _ _
      have gA' : W (A r) ≤ up W (A r) (mx (W (A r)) (f r (W (B r)))) (A r) := by rw [up_eq]; exact mx_l _ _
      refine ⟨?_, ?_⟩
      · refine Int.le_trans (hm r _ _ (i1 (B r))) (Int.le_trans gA ?_)
        unfold rx
        by_cases hab : A r = B r
        · rw [hab, up_eq, up_eq]
          exact mx_l _ _
        · rw [up_ne hab]; exact Int.le_refl _
      · unfold rx
        rw [up_eq]
        exact Int.le_trans (hm r _ _ (Int.le_trans (i1 (A r)) gA')) (mx_r _ _)
    · obtain ⟨j1, j2⟩ := i2 r (by omega)
      exact ⟨Int.le_trans j1 (rx_ge W n _), Int.le_trans j2 (rx_ge W n _)⟩
theorem rnd_bst (hm : ∀ r x y, x ≤ y → f r x ≤ f r y) (V : Nat → Int) (p : Nat) : bst A B f R V p ≤ rnd A B f R V p := by
  obtain ⟨g1, g2⟩ := rnd_ge (A := A) (B := B) (f := f) (R := R) hm V R (Nat.le_refl _)
  rcases bst_or (A := A) (B := B) (f := f) (R := R) V p with e | ⟨q, r, hr, hq, e⟩
  · rw [e]; exact g1 p
  · rw [e]
    rcases hq with ⟨h1, h2⟩ | ⟨h1, h2⟩
    · subst h1; subst h2; exact (g2 r hr).1
    · subst h1; subst h2; exact (g2 r hr).2
theorem rnds_bf (hm : ∀ r x y, x ≤ y → f r x ≤ f r y) (V0 : Nat → Int) : ∀ k p, bf A B f R V0 k p ≤ rnds A B f R k V0 p
  | 0, p => Int.le_refl _
  | k + 1, p => by
    rw [rnds_s]
    exact Int.le_trans (bst_mono hm (rnds_bf hm V0 k) p) (rnd_bst hm _ p)
/-- as many rounds as there are places, or more, give the same -/
theorem rnds_eq (hd : ∀ r x, f r x ≤ x) (hAB : ∀ r, r < R → A r < P ∧ B r < P) (hm : ∀ r x y, x ≤ y → f r x ≤ f r y) (V0 : Nat → Int) {k : Nat} (hk : P ≤ k) (p : Nat) (hp : p < P) : rnds A B f R k V0 p = rnds A B f R P V0 p := by
  have hst : ∀ q, q < P → ∀ j, P ≤ j → bf A B f R V0 (j + 1) q ≤ bf A B f R V0 j q := fun q hq j hj => by
    by_cases h : bf A B f R V0 j q < bf A B f R V0 (j + 1) q
    · have := bf_stop hd hAB hm V0 j q hq h; omega
    · omega
  have top : ∀ j q, q < P → rnds A B f R j V0 q ≤ bf A B f R V0 P q := by
    have fix : ∀ r, r < R → f r (bf A B f R V0 P (B r)) ≤ bf A B f R V0 P (A r) ∧ f r (bf A B f R V0 P (A r)) ≤ bf A B f R V0 P (B r) := fun r hr =>
      ⟨Int.le_trans (bst_A hr) (hst (A r) (hAB r hr).1 P (Nat.le_refl _)), Int.le_trans (bst_B hr) (hst (B r) (hAB r hr).2 P (Nat.le_refl _))⟩
    intro j
    have all : ∀ j q, rnds A B f R j V0 q ≤ bf A B f R V0 P q := by
      intro j
      induction j with
      | zero => exact fun q => bf_up V0 q P 0 (by omega)
      | succ j ih =>
        intro q
        rw [rnds_s]
        have := fo_inv (g := fun r V => rx A B f r V) (P := fun i V => i ≤ R → ∀ q, V q ≤ bf A B f R V0 P q) R 0 (rnds A B f R j V0) (fun _ => ih) (fun r V h1 h2 h3 h4 q => rx_le hm (h3 (by omega)) (fix r (by omega)).1 (fix r (by omega)).2 q)
        exact this (by omega) q
    exact fun q _ => all j q
  have lo : ∀ j, P ≤ j → bf A B f R V0 P p ≤ rnds A B f R j V0 p := fun j hj => Int.le_trans (bf_up V0 p j P hj) (rnds_bf hm V0 j p)
  have a1 := top k p hp
  have a2 := lo k hk
  have a3 := top P p hp
  have a4 := lo P (Nat.le_refl _)
  omega
end Relax
