/-! ===== LOCKS: all that fit what is told ===== -/
def tlB (T : Nat → Int) (mk vl : Int) : Nat → Nat → Bool
  | 0, _ => true
  | n + 1, i => (fitB (T (2 * i)) mk vl == decide (T (2 * i + 1) = 1)) && tlB T mk vl n (i + 1)
theorem tlB_iff {T : Nat → Int} {mk vl : Int} : ∀ n i, tlB T mk vl n i = true ↔ ∀ j, i ≤ j → j < i + n → fitB (T (2 * j)) mk vl = decide (T (2 * j + 1) = 1)
  | 0, i => ⟨fun _ j h1 h2 => by omega, fun _ => rfl⟩
  | n + 1, i => by
    have ih := tlB_iff (T := T) (mk := mk) (vl := vl) n (i + 1)
    rw [tlB, Bool.and_eq_true, ih, beq_iff_eq]
    constructor
    · intro h j h1 h2
      by_cases e : j = i
      · subst e; exact h.1
      · exact h.2 j (by omega) (by omega)
    · intro h
      exact ⟨h i (Nat.le_refl _) (by omega), fun j h1 h2 => h j (by omega) (by omega)⟩
def lkOK (T : Nat → Int) (m x : Nat) : Bool := decide (iAnd ((x % 16 : Nat) : Int) (iXor ((x / 16 : Nat) : Int) (-1)) = 0) && tlB T ((x / 16 : Nat) : Int) ((x % 16 : Nat) : Int) m 0
def lkG (ok : Nat → Bool) (x : Nat) (s : Int × Int) : Int × Int := bif ok x then (s.1 + 1, if s.2 = -1 ∨ bcv ((x / 16 : Nat) : Int) < bcv ((s.2.toNat / 16 : Nat) : Int) then (x : Int) else s.2) else s
def lkP (i : Nat) (s : Int × Int) : Prop := (0 ≤ s.1 ∧ s.1 ≤ i) ∧ -1 ≤ s.2 ∧ s.2 ≤ 255
theorem lkP_G {ok : Nat → Bool} {x : Nat} {s : Int × Int} (hx : x < 256) (h : lkP x s) : lkP (x + 1) (lkG ok x s) := by
  unfold lkG lkP at *
  cases ok x with
  | false =>
    rw [cn_f]; omega
  | true =>
    rw [cn_t]
    refine ⟨by show 0 ≤ s.1 + 1 ∧ s.1 + 1 ≤ _; omega, ?_⟩
    have : ∀ (p : Prop) [Decidable p], -1 ≤ (if p then (x : Int) else s.2) ∧ (if p then (x : Int) else s.2) ≤ 255 := fun p _ => by split <;> omega
    exact this _
theorem bcv_16 {x : Nat} (h : x < 1024) : 0 ≤ bcv (x : Int) ∧ bcv (x : Int) ≤ 10 := by
  rw [bcv_s h]
  have := cnt_le x.testBit 10
  omega
theorem bset_no {f : Nat → Bool} {n : Nat} : bset n f = 0 ↔ ∀ i, i < n → f i = false := by
  constructor
  · intro h i hi
    have : (bset n f).testBit i = (decide (i < n) && f i) := bset_bit ..
    rw [h, Nat.zero_testBit, decide_eq_true hi, Bool.true_and] at this
    exact this.symm
  · intro h
    apply Nat.eq_of_testBit_eq
    intro i
    rw [bset_bit, Nat.zero_testBit]
    by_cases hi : i < n
    · rw [h i hi, Bool.and_false]
    · rw [decide_eq_false hi, Bool.false_and]
def psS (T : Nat → Int) (z : Bool) : Nat → Nat → (Nat → Bool) → Nat → Bool
  | 0, _, f => f
  | n + 1, i, f => psS T z n (i + 1) (if decide (T (2 * i + 1) = 1) = z then fun s => f s || decide (s = (T (2 * i)).toNat) else f)
theorem psS_iff {T : Nat → Int} {z : Bool} {s : Nat} : ∀ n i f, psS T z n i f s = true ↔ f s = true ∨ ∃ j, i ≤ j ∧ j < i + n ∧ decide (T (2 * j + 1) = 1) = z ∧ s = (T (2 * j)).toNat
  | 0, i, f => ⟨fun h => Or.inl h, fun h => by
      rcases h with h | ⟨j, h1, h2, -⟩
      · exact h
      · omega⟩
  | n + 1, i, f => by
    rw [psS, psS_iff n (i + 1)]
    by_cases hz : decide (T (2 * i + 1) = 1) = z
    · rw [if_pos hz]
      show (f s || decide (s = (T (2 * i)).toNat)) = true ∨ _ ↔ _
      rw [Bool.or_eq_true, decide_eq_true_iff]
      constructor
      · rintro ((h | h) | ⟨j, h1, h2, h3⟩)
        · exact Or.inl h
        · exact Or.inr ⟨i, Nat.le_refl _, by omega, hz, h⟩
        · exact Or.inr ⟨j, by omega, by omega, h3⟩
      · rintro (h | ⟨j, h1, h2, h3, h4⟩)
        · exact Or.inl (Or.inl h)
        · by_cases e : j = i
          · subst e; exact Or.inl (Or.inr h4)
          · exact Or.inr ⟨j, by omega, by omega, h3, h4⟩
    · rw [if_neg hz]
      constructor
      · rintro (h | ⟨j, h1, h2, h3⟩)
        · exact Or.inl h
        · exact Or.inr ⟨j, by omega, by omega, h3⟩
      · rintro (h | ⟨j, h1, h2, h3, h4⟩)
        · exact Or.inl h
        · by_cases e : j = i
          · subst e; exact absurd h3 hz
          · exact Or.inr ⟨j, by omega, by omega, h3, h4⟩
theorem nu_or1 {f : Nat → Bool} {s : Nat} (h : s < 16) : iOr ((bset 16 f : Nat) : Int) (iShl 1 (s : Int)) = ((bset 16 (fun j => f j || decide (j = s)) : Nat) : Int) := by
  rw [nu_one (by omega), nu_or (bset_31 (by decide)) (Nat.lt_of_lt_of_le (Nat.pow_lt_pow_right (by decide) (show s < 31 by omega)) (by decide))]
  congr 1
  apply Nat.eq_of_testBit_eq
  intro j
  rw [Nat.testBit_or, bset_bit, bset_bit, Nat.testBit_two_pow]
  by_cases hj : j < 16
  · rw [decide_eq_true hj, Bool.true_and, Bool.true_and]
    congr 1
    exact decide_eq_decide.mpr eq_comm
  · rw [decide_eq_false hj, Bool.false_and, Bool.false_and, decide_eq_false (by omega)]; rfl
section Locks
variable {M : MM} {T : Nat → Int} {m : Nat}
theorem locks_sets {K : Int → Int → MM → OR} {v2 : Int} (hT : ∀ j, j < m → 0 ≤ T (2 * j) ∧ T (2 * j) < 16) (hI : ∀ j, j < m → I32 (T (2 * j + 1))) (h2 : M 2 = T) (hm : m ≤ 200) : ∀ d F i (f g : Nat → Bool), i + d = m → d < F → ridd_locksAnswer_L8 (m : Int) v2 K F ((bset 16 f : Nat) : Int) ((bset 16 g : Nat) : Int) (i : Int) M = K ((bset 16 (psS T true d i f) : Nat) : Int) ((bset 16 (psS T false d i g) : Nat) : Int) M
  | 0, F, i, f, g, hi, hF => by
    obtain ⟨q, rfl⟩ : ∃ n, F = n + 1 := ⟨F - 1, by omega⟩
    rw [ridd_locksAnswer_L8, bq_ge (by omega) (by omega), if_pos (by omega)]; rfl
  | d + 1, F, i, f, g, hi, hF => by
    obtain ⟨q, rfl⟩ : ∃ n, F = n + 1 := ⟨F - 1, by omega⟩
    have t1 := hT i (by omega)
    have t2 := hI i (by omega)
    obtain ⟨s, hs⟩ : ∃ s : Nat, T (2 * i) = (s : Int) := ⟨(T (2 * i)).toNat, by omega⟩
    rw [ridd_locksAnswer_L8, bq_ge (by omega) (by omega), if_neg (by omega), bq_ge (by omega) (by decide), if_neg (by omega), bq_in (by omega) (by omega), h2, show 2 * (i : Int) + 1 = ((2 * i + 1 : Nat) : Int) by omega, show 2 * (i : Int) = ((2 * i : Nat) : Int) by omega, Int.toNat_natCast, Int.toNat_natCast, bq_ne t2 (by decide), psS, psS, hs, Int.toNat_natCast, nu_or1 (by omega), nu_or1 (by omega), bq_in (by omega) (by omega), bq_in (by omega) (by omega), show (i : Int) + 1 = ((i + 1 : Nat) : Int) by omega]
    by_cases h1 : T (2 * i + 1) = 1
    · rw [if_pos h1, decide_eq_true h1, if_pos rfl, if_neg (by decide)]
      exact locks_sets hT hI h2 hm d q (i + 1) _ _ (by omega) (by omega)
    · rw [if_neg h1, decide_eq_false h1, if_neg (by decide), if_pos rfl]
      exact locks_sets hT hI h2 hm d q (i + 1) _ _ (by omega) (by omega)
theorem agrees_b {k : Int → MM → OR} {mk vl : Int} {f g : Nat → Bool} (hv : I32 vl) : bI (ridd_agrees mk vl ((bset 16 f : Nat) : Int) ((bset 16 g : Nat) : Int) M) k = k (b2 (decide (iAnd vl (iXor mk (-1)) = 0) && (decide (bset 16 (fun s => f s && !fitB (s : Int) mk vl) = 0) && decide (bset 16 (fun s => g s && fitB (s : Int) mk vl) = 0)))) M := by
  unfold ridd_agrees
  rw [bq_eq (I32_and _ _) (by decide)]
  by_cases h0 : iAnd vl (iXor mk (-1)) = 0
  · rw [if_pos h0, decide_eq_true h0, Bool.true_and]
    have := or_run0 (L := fun F a i => ridd_agrees_L16 mk vl ((bset 16 f : Nat) : Int) ((bset 16 g : Nat) : Int) (fun v4_1 M_2 => (bif cmpB .ne (iAnd ((bset 16 f : Nat) : Int) (iXor v4_1 (-1))) 0 then some (rI 0, M_2) else (bif cmpB .ne (iAnd ((bset 16 g : Nat) : Int) v4_1) 0 then some (rI 0, M_2) else some (rI 1, M_2)))) F a i M) (K := fun v4_1 => (bif cmpB .ne (iAnd ((bset 16 f : Nat) : Int) (iXor v4_1 (-1))) 0 then some (rI 0, M) else (bif cmpB .ne (iAnd ((bset 16 g : Nat) : Int) v4_1) 0 then some (rI 0, M) else some (rI 1, M)))) (f := fun s => fitB (s : Int) mk vl) (N := 16) (F := FU) (by decide) (FU_gt (by decide)) (fun n a i hi ha => by
      rw [ridd_agrees_L16, bq_ge (by omega) (by decide), if_neg (by omega), bq_ne (I32_and _ _) hv]
      unfold fitB
      by_cases hf : iAnd (i : Int) mk = vl
      · rw [if_pos hf, decide_eq_true hf, cn_t]
      · rw [if_neg hf, decide_eq_false hf, cn_f]) (fun n a => by
      rw [ridd_agrees_L16, bq_ge (by decide) (by decide), if_pos (by decide)])
    rw [show ridd_agrees_L16 mk vl _ _ _ FU 0 0 M = _ from this]
    have b31 := bset_31 (f := fun s => fitB (s : Int) mk vl) (show 16 ≤ 31 by decide)
    have g31 := bset_31 (f := g) (show 16 ≤ 31 by decide)
    rw [andn_s b31 (by decide), nu_and g31 b31]
    have e1 : ((bset 16 (fun i => f i && !(bset 16 (fun s => fitB (s : Int) mk vl)).testBit i) : Nat) : Int) = 0 ↔ bset 16 (fun s => f s && !fitB (s : Int) mk vl) = 0 := by
      have : bset 16 (fun i => f i && !(bset 16 (fun s => fitB (s : Int) mk vl)).testBit i) = bset 16 (fun s => f s && !fitB (s : Int) mk vl) := bset_cg 16 fun i hi => by rw [bset_bit, decide_eq_true hi, Bool.true_and]
      rw [this]; omega
    have e2 : ((bset 16 g &&& bset 16 (fun s => fitB (s : Int) mk vl) : Nat) : Int) = 0 ↔ bset 16 (fun s => g s && fitB (s : Int) mk vl) = 0 := by
      have : bset 16 g &&& bset 16 (fun s => fitB (s : Int) mk vl) = bset 16 (fun s => g s && fitB (s : Int) mk vl) := by
        apply Nat.eq_of_testBit_eq
        intro i
        rw [Nat.testBit_and, bset_bit, bset_bit, bset_bit]
        cases decide (i < 16) <;> simp
      rw [this]; omega
    have i1 := bset_31 (f := fun i => f i && !(bset 16 (fun s => fitB (s : Int) mk vl)).testBit i) (show 16 ≤ 31 by decide)
    have i2 : bset 16 g &&& bset 16 (fun s => fitB (s : Int) mk vl) < 2147483648 := Nat.lt_of_le_of_lt Nat.and_le_left g31
    rw [bq_ne (by omega) (by decide), bq_ne (by omega) (by decide)]
    by_cases c1 : bset 16 (fun s => f s && !fitB (s : Int) mk vl) = 0
    · rw [if_pos (e1.mpr c1), decide_eq_true c1, Bool.true_and]
      by_cases c2 : bset 16 (fun s => g s && fitB (s : Int) mk vl) = 0
      · rw [if_pos (e2.mpr c2), decide_eq_true c2, bI_I]; rfl
      · rw [if_neg (fun h => c2 (e2.mp h)), decide_eq_false c2, bI_I]; rfl
    · rw [if_neg (fun h => c1 (e1.mp h)), decide_eq_false c1, Bool.false_and, bI_I]; rfl
  · rw [if_neg h0, decide_eq_false h0, Bool.false_and, bI_I]; rfl
theorem agrees_ok (hT : ∀ j, j < m → 0 ≤ T (2 * j) ∧ T (2 * j) < 16) (x : Nat) : (decide (iAnd ((x % 16 : Nat) : Int) (iXor ((x / 16 : Nat) : Int) (-1)) = 0) && (decide (bset 16 (fun s => psS T true m 0 (fun _ => false) s && !fitB (s : Int) ((x / 16 : Nat) : Int) ((x % 16 : Nat) : Int)) = 0) && decide (bset 16 (fun s => psS T false m 0 (fun _ => false) s && fitB (s : Int) ((x / 16 : Nat) : Int) ((x % 16 : Nat) : Int)) = 0))) = lkOK T m x := by
  unfold lkOK
  congr 1
  rw [Bool.eq_iff_iff, Bool.and_eq_true, decide_eq_true_iff, decide_eq_true_iff, tlB_iff, bset_no, bset_no]
  constructor
  · rintro ⟨h1, h2⟩ j hj0 hj
    have t := hT j (by omega)
    have es : (((T (2 * j)).toNat : Nat) : Int) = T (2 * j) := by omega
    by_cases hp : T (2 * j + 1) = 1
    · have g := h1 (T (2 * j)).toNat (by omega)
      rw [show psS T true m 0 (fun _ => false) (T (2 * j)).toNat = true from (psS_iff m 0 _).mpr (Or.inr ⟨j, hj0, hj, decide_eq_true hp, rfl⟩), es, Bool.true_and] at g
      rw [decide_eq_true hp]
      cases h : fitB (T (2 * j)) ((x / 16 : Nat) : Int) ((x % 16 : Nat) : Int) with
      | true => rfl
      | false => rw [h] at g; exact absurd g (by decide)
    · have g := h2 (T (2 * j)).toNat (by omega)
      rw [show psS T false m 0 (fun _ => false) (T (2 * j)).toNat = true from (psS_iff m 0 _).mpr (Or.inr ⟨j, hj0, hj, decide_eq_false hp, rfl⟩), es, Bool.true_and] at g
      rw [decide_eq_false hp]
      exact g
  · intro h
    constructor
    · intro s hs
      by_cases hp : psS T true m 0 (fun _ => false) s = true
      · rcases (psS_iff m 0 _).mp hp with g | ⟨j, j0, j1, g1, g2⟩
        · exact absurd g (by decide)
        · have t := hT j (by omega)
          have := h j j0 j1
          rw [g1] at this
          rw [show ((s : Nat) : Int) = T (2 * j) by omega, this, Bool.not_true, Bool.and_false]
      · rw [Bool.eq_false_iff.mpr hp, Bool.false_and]
    · intro s hs
      by_cases hp : psS T false m 0 (fun _ => false) s = true
      · rcases (psS_iff m 0 _).mp hp with g | ⟨j, j0, j1, g1, g2⟩
        · exact absurd g (by decide)
        · have t := hT j (by omega)
          have := h j j0 j1
          rw [g1] at this
          rw [show ((s : Nat) : Int) = T (2 * j) by omega, this, Bool.and_false]
      · rw [Bool.eq_false_iff.mpr hp, Bool.false_and]
def lkV (T : Nat → Int) (m : Nat) : Int × Int := fo (lkG (lkOK T m)) 256 0 (0, -1)
theorem lkV_P : lkP 256 (lkV T m) := by
  unfold lkV
  have := fo_inv (g := lkG (lkOK T m)) (P := lkP) 256 0 (0, -1) ⟨by decide, by decide⟩ (fun j a h1 h2 h3 => lkP_G (by omega) h3)
  rw [Nat.zero_add] at this
  exact this
theorem d16 {x : Nat} (hx : x < 256) : (w32 ((x : Nat) : Int)).tdiv (w32 16) = ((x / 16 : Nat) : Int) ∧ (w32 ((x : Nat) : Int)).tmod (w32 16) = ((x % 16 : Nat) : Int) := by
  rw [nw (show I32 ((x : Nat) : Int) by omega), show w32 16 = 16 from rfl]
  exact ⟨rfl, rfl⟩
theorem locksAnswer_b {k : Int → MM → OR} {v2 : Int} (hv : v2 = 0 ∨ v2 = 1) (hT : ∀ j, j < m → 0 ≤ T (2 * j) ∧ T (2 * j) < 16) (hI : ∀ j, j < m → I32 (T (2 * j + 1))) (h2 : M 2 = T) (hm : m ≤ 200) : bI (ridd_locksAnswer (m : Int) v2 M) k = k (if v2 = 0 then (lkV T m).1 else (lkV T m).2) M := by
  unfold ridd_locksAnswer
  have z16 : ((bset 16 (fun _ => false) : Nat) : Int) = 0 := rfl
  have s1 := locks_sets (K := fun v3_1 v4_2 M_3 => ridd_locksAnswer_J89 v2 v3_1 v4_2 M_3) (v2 := v2) hT hI h2 hm m FU 0 (fun _ => false) (fun _ => false) (by omega) (FU_gt (by omega))
  rw [z16] at s1
  rw [show ridd_locksAnswer_L8 (m : Int) v2 _ FU 0 0 0 M = _ from s1]
  unfold ridd_locksAnswer_J89
  generalize hA : bset 16 (psS T true m 0 (fun _ => false)) = A
  generalize hB : bset 16 (psS T false m 0 (fun _ => false)) = B
  have run := fo_runP0 (F := FU) (a := ((0 : Int), (-1 : Int))) (L := fun F (a : Int × Int) i => ridd_locksAnswer_L98 v2 (A : Int) (B : Int) (fun v5_19 v6_20 M_21 => (bif cmpB .eq v2 0 then some (rI v5_19, M_21) else some (rI v6_20, M_21))) F a.1 a.2 i M) (K := fun a => (bif cmpB .eq v2 0 then some (rI a.1, M) else some (rI a.2, M))) (g := lkG (lkOK T m)) (N := 256) (P := lkP) (fun n a x hx ha => ?_) (fun n a ha => ?_) (fun x a hx ha => lkP_G hx ha) (FU_gt (by decide)) ⟨by decide, by decide⟩
  · rw [show ridd_locksAnswer_L98 v2 (A : Int) (B : Int) _ FU 0 (-1) 0 M = _ from run]
    show bI (bif cmpB .eq v2 0 then some (rI (lkV T m).1, M) else some (rI (lkV T m).2, M)) k = _
    rcases hv with rfl | rfl
    · rw [bq_eq (by decide) (by decide), if_pos rfl, if_pos rfl, bI_I]
    · rw [bq_eq (by decide) (by decide), if_neg (by decide), if_neg (by decide), bI_I]
  · obtain ⟨a1, a2⟩ := ha
    have ag := agrees_ok (T := T) (m := m) hT x
    have bx := bcv_16 (x := x / 16) (by omega)
    rw [ridd_locksAnswer_L98, bq_ge (by omega) (by decide), if_neg (by omega), (d16 hx).1, (d16 hx).2, ← hA, ← hB, agrees_b (by omega), ag, hA, hB, bz_eq0]
    unfold lkG
    cases lkOK T m x with
    | false => rw [cn_f, cn_f]
    | true =>
      rw [cn_t, cn_t, bq_eq (by omega) (by decide)]
      by_cases h1 : a.2 = -1
      · rw [if_pos h1, if_pos (Or.inl h1)]
      · obtain ⟨y, hy⟩ : ∃ y : Nat, a.2 = (y : Int) := ⟨a.2.toNat, by omega⟩
        have by' := bcv_16 (x := y / 16) (by omega)
        rw [if_neg h1, bc_v, bI_I, hy, (d16 (by omega)).1, bc_v, bI_I, bq_ge (by omega) (by omega), Int.toNat_natCast]
        by_cases h3 : bcv ((y / 16 : Nat) : Int) ≤ bcv ((x / 16 : Nat) : Int)
        · rw [if_pos h3, if_neg (by omega)]
        · rw [if_neg h3, if_pos (by omega)]
  · rw [ridd_locksAnswer_L98, bq_ge (by decide) (by decide), if_pos (by decide)]
end Locks
