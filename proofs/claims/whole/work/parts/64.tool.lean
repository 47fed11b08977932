/-! ===== TOOLS: branches read as conditions; truth as a number; loops as folds ===== -/
def b2 (b : Bool) : Int := bif b then 1 else 0
theorem b2_t : b2 true = 1 := rfl
theorem b2_f : b2 false = 0 := rfl
theorem b2_01 (b : Bool) : b2 b = 0 ∨ b2 b = 1 := by cases b <;> simp [b2]
theorem b2_I (b : Bool) : I32 (b2 b) := by cases b <;> decide
theorem cn_dec {α : Type} {p : Prop} [Decidable p] {x y : α} : (bif decide p then x else y) = if p then x else y := by by_cases h : p <;> simp [h]
theorem cn_t {α : Type} {x y : α} : (bif true then x else y) = x := bif_t rfl
theorem cn_f {α : Type} {x y : α} : (bif false then x else y) = y := bif_f rfl
section BqRows
variable {α : Type} {a b i : Int} {n : Nat} {x y : α} {p : Bool}
theorem bq_eq (ha : I32 a) (hb : I32 b) : (bif cmpB .eq a b then x else y) = if a = b then x else y := by rw [cq_eq ha hb]; exact cn_dec
theorem bq_ne (ha : I32 a) (hb : I32 b) : (bif cmpB .ne a b then x else y) = if a = b then y else x := by
  rw [cq_ne ha hb]
  by_cases h : a = b
  · rw [decide_eq_false (not_not_intro h), if_pos h]; rfl
  · rw [decide_eq_true h, if_neg h]; rfl
theorem bq_lt (ha : I32 a) (hb : I32 b) : (bif cmpB .lt a b then x else y) = if a < b then x else y := by rw [cq_lt ha hb]; exact cn_dec
theorem bq_ge (ha : I32 a) (hb : I32 b) : (bif cmpB .ge a b then x else y) = if b ≤ a then x else y := by rw [cq_ge ha hb]; exact cn_dec
theorem bq_gt (ha : I32 a) (hb : I32 b) : (bif cmpB .gt a b then x else y) = if b < a then x else y := by rw [cq_gt ha hb]; exact cn_dec
theorem bq_le (ha : I32 a) (hb : I32 b) : (bif cmpB .le a b then x else y) = if a ≤ b then x else y := by rw [cq_le ha hb]; exact cn_dec
theorem bq_in (h0 : 0 ≤ i) (h1 : i < n) : (bif inB i n then x else y) = x := by rw [inB_t h0 h1]; rfl
theorem bz_ne1 : (bif cmpB .ne (b2 p) 1 then x else y) = bif p then y else x := by cases p <;> rfl
theorem bz_ne0 : (bif cmpB .ne (b2 p) 0 then x else y) = bif p then x else y := by cases p <;> rfl
theorem bz_eq1 : (bif cmpB .eq (b2 p) 1 then x else y) = bif p then x else y := by cases p <;> rfl
theorem bz_eq0 : (bif cmpB .eq (b2 p) 0 then x else y) = bif p then y else x := by cases p <;> rfl
theorem bz_zo : (bif zo (b2 p) then x else y) = x := by cases p <;> rfl
theorem zo_0 : (bif zo 0 then x else y) = x := rfl
theorem zo_1 : (bif zo 1 then x else y) = x := rfl
theorem b_01 {M : MM} : (bif p then some (rI 1, M) else some (rI 0, M)) = some (rI (b2 p), M) := by cases p <;> rfl
theorem b_10 {M : MM} : (bif p then some (rI 0, M) else some (rI 1, M)) = some (rI (b2 (!p)), M) := by cases p <;> rfl
end BqRows
theorem i_01 {c : Prop} [Decidable c] {M : MM} : (if c then some (rI 1, M) else some (rI 0, M) : OR) = some (rI (b2 (decide c)), M) := by by_cases h : c <;> simp [h, b2]
theorem i_10 {c : Prop} [Decidable c] {M : MM} : (if c then some (rI 0, M) else some (rI 1, M) : OR) = some (rI (b2 (!decide c)), M) := by by_cases h : c <;> simp [h, b2]
theorem mU_ap {M : MM} {a k b j : Nat} {x : Int} : mU M a k x b j = if b = a then (if j = k then x else M b j) else M b j := by
  unfold mU up
  by_cases h : b = a
  · subst h; simp
  · simp [h]
theorem mV_ap {M : MM} {a b j : Nat} {f : Nat → Int} : mV M a f b j = if b = a then f j else M b j := by
  unfold mV
  by_cases h : b = a
  · subst h; simp
  · simp [h]
theorem FU_gt {n : Nat} (h : n < 1000000) : n < FU := h
-- loops that count up
def fo {α : Type} (g : Nat → α → α) : Nat → Nat → α → α
  | 0, _, a => a
  | n + 1, i, a => fo g n (i + 1) (g i a)
theorem fo_s {α : Type} (g : Nat → α → α) : ∀ n i a, fo g (n + 1) i a = g (i + n) (fo g n i a)
  | 0, i, a => rfl
  | n + 1, i, a => by
    show fo g (n + 1) (i + 1) (g i a) = _
    rw [fo_s g n (i + 1) (g i a), show i + 1 + n = i + (n + 1) by omega]; rfl
theorem fo_cg {α : Type} {g g' : Nat → α → α} : ∀ n i a, (∀ j a, i ≤ j → j < i + n → g j a = g' j a) → fo g n i a = fo g' n i a
  | 0, i, a, _ => rfl
  | n + 1, i, a, h => by
    show fo g n (i + 1) (g i a) = fo g' n (i + 1) (g' i a)
    rw [h i a (by omega) (by omega)]
    exact fo_cg n (i + 1) _ (fun j a h1 h2 => h j a (by omega) (by omega))
theorem fo_run {α : Type} {L : Nat → α → Int → OR} {K : α → OR} {g : Nat → α → α} {N : Nat} (hs : ∀ n a (i : Nat), i < N → L (n + 1) a (i : Int) = L n (g i a) ((i : Int) + 1)) (he : ∀ n a, L (n + 1) a (N : Int) = K a) : ∀ k F i a, k + i = N → k < F → L F a (i : Int) = K (fo g k i a)
  | 0, F, i, a, h, hF => by
    obtain ⟨n, rfl⟩ : ∃ n, F = n + 1 := ⟨F - 1, by omega⟩
    obtain rfl : i = N := by omega
    exact he n a
  | k + 1, F, i, a, h, hF => by
    obtain ⟨n, rfl⟩ : ∃ n, F = n + 1 := ⟨F - 1, by omega⟩
    rw [hs n a i (by omega), show (i : Int) + 1 = ((i + 1 : Nat) : Int) by omega]
    exact fo_run hs he k n (i + 1) (g i a) (by omega) (by omega)
/-- a loop from 0 on -/
theorem fo_run0 {α : Type} {L : Nat → α → Int → OR} {K : α → OR} {g : Nat → α → α} {N F : Nat} {a : α} (hF : N < F) (hs : ∀ n a (i : Nat), i < N → L (n + 1) a (i : Int) = L n (g i a) ((i : Int) + 1)) (he : ∀ n a, L (n + 1) a (N : Int) = K a) : L F a 0 = K (fo g N 0 a) := fo_run hs he N F 0 a rfl hF
/-- an invariant of a fold -/
theorem fo_inv {α : Type} {g : Nat → α → α} {P : Nat → α → Prop} : ∀ n i a, P i a → (∀ j a, i ≤ j → j < i + n → P j a → P (j + 1) (g j a)) → P (i + n) (fo g n i a)
  | 0, i, a, h, _ => h
  | n + 1, i, a, h, hs => by
    have := fo_inv (g := g) (P := P) n (i + 1) (g i a) (hs i a (by omega) (by omega) h) (fun j a h1 h2 h3 => hs j a (by omega) (by omega) h3)
    rw [show i + (n + 1) = i + 1 + n by omega]; exact this
-- sets as numbers: a fold of iOr
def orB (f : Nat → Bool) (i : Nat) (z : Int) : Int := bif f i then iOr z (iShl 1 (i : Int)) else z
theorem nu_one {k : Nat} (hk : k < 31) : iShl 1 (k : Int) = ((2 ^ k : Nat) : Int) := by
  have := nu_shl (a := 1) hk (by rw [Nat.one_shiftLeft]; exact Nat.lt_of_lt_of_le (Nat.pow_lt_pow_right (by decide) hk) (by decide))
  rw [Nat.one_shiftLeft] at this
  exact this
theorem orB_bs {f : Nat → Bool} {i : Nat} (hi : i < 31) : orB f i (((bset i f : Nat)) : Int) = ((bset (i + 1) f : Nat) : Int) := by
  unfold orB
  have h31 : ∀ j, j ≤ 31 → bset j f < 2147483648 := fun j hj => Nat.lt_of_lt_of_le (bset_lt f j) (Nat.pow_le_pow_right (by decide) hj)
  show _ = (((bset i f ||| (bif f i then 2 ^ i else 0) : Nat)) : Int)
  cases f i with
  | true =>
    show iOr _ _ = ((bset i f ||| 2 ^ i : Nat) : Int)
    rw [nu_one hi, nu_or (h31 i (by omega)) (Nat.lt_of_lt_of_le (Nat.pow_lt_pow_right (by decide) hi) (by decide))]
  | false =>
    show _ = ((bset i f ||| 0 : Nat) : Int)
    rw [Nat.or_zero]; rfl
theorem fo_bs {f : Nat → Bool} : ∀ n, n ≤ 31 → fo (orB f) n 0 0 = ((bset n f : Nat) : Int)
  | 0, _ => rfl
  | n + 1, h => by
    rw [fo_s, fo_bs n (by omega), Nat.zero_add]
    exact orB_bs (by omega)
theorem bset_cg {f f' : Nat → Bool} : ∀ n, (∀ i, i < n → f i = f' i) → bset n f = bset n f'
  | 0, _ => rfl
  | n + 1, h => by
    show (bset n f ||| _) = (bset n f' ||| _)
    rw [bset_cg n (fun i hi => h i (by omega)), h n (by omega)]
/-- a set of things that stops at n, told by a longer one -/
theorem bset_ext {f : Nat → Bool} {n m : Nat} (h : n ≤ m) : bset m (fun i => decide (i < n) && f i) = bset n f := by
  apply Nat.eq_of_testBit_eq
  intro k
  rw [bset_bit, bset_bit]
  by_cases h1 : k < n
  · rw [decide_eq_true h1, decide_eq_true (show k < m by omega)]; simp
  · rw [decide_eq_false h1]; simp
theorem bset_31 {f : Nat → Bool} {n : Nat} (h : n ≤ 31) : bset n f < 2147483648 := Nat.lt_of_lt_of_le (bset_lt f n) (Nat.pow_le_pow_right (by decide) h)
-- a bit of a set
theorem bit_1 {s k : Nat} : (s >>> k) &&& 1 = if s.testBit k then 1 else 0 := by
  unfold Nat.testBit
  rw [Nat.and_comm 1]
  rcases Nat.mod_two_eq_zero_or_one (s >>> k) with h | h <;> simp [Nat.and_one_is_mod, h]
theorem gh_bit_v {s k : Nat} {M : MM} (hs : s < 2147483648) (hk : k < 32) : gh_bit (s : Int) (k : Int) M = some (rI (b2 (s.testBit k)), M) := by
  unfold gh_bit
  rw [nu_ushr hs hk]
  have h1 : s >>> k < 2147483648 := Nat.lt_of_le_of_lt (by rw [Nat.shiftRight_eq_div_pow]; exact Nat.div_le_self _ _) hs
  have := nu_and (b := 1) h1 (by decide)
  rw [show ((1 : Nat) : Int) = 1 from rfl] at this
  rw [this, bit_1]
  cases s.testBit k <;> rfl
theorem mo_has_v {s k : Nat} {M : MM} (hs : s < 2147483648) (hk : k < 32) : mo_has (s : Int) (k : Int) M = some (rI (b2 (s.testBit k)), M) := by
  unfold mo_has
  rw [nu_shr hs hk]
  have h1 : s >>> k < 2147483648 := Nat.lt_of_le_of_lt (by rw [Nat.shiftRight_eq_div_pow]; exact Nat.div_le_self _ _) hs
  have := nu_and (b := 1) h1 (by decide)
  rw [show ((1 : Nat) : Int) = 1 from rfl] at this
  rw [this, bit_1]
  cases s.testBit k <;> rfl
