set_option maxRecDepth 16384
/-! ===== EVALUATION ===== -/
section EvRows
variable {M : MM} {z : Int} {c : Nat}
theorem bI_I {k : Int → MM → OR} : bI (some (rI z, M)) k = k z M := rfl
theorem bJ_J {k : Int → MM → OR} : bJ (some (rJ z, M)) k = k z M := rfl
theorem bV_V {k : MM → OR} : bV (some (rV, M)) k = k M := rfl
theorem bH_I {k : Int → MM → OR} {e : Nat → MM → OR} : bH (some (rI z, M)) k e = k z M := rfl
theorem bH_X {k : Int → MM → OR} {e : Nat → MM → OR} : bH (some (.inr c, M)) k e = e c M := rfl
theorem tx_t (h : 13 ≤ c ∧ c < 18) : tx c M = some (.inr c, M) := by
  unfold tx
  rw [decide_eq_true h.1, decide_eq_true h.2]; rfl
theorem bI_X {k : Int → MM → OR} (h : 13 ≤ c ∧ c < 18) : bI (some (.inr c, M)) k = some (.inr c, M) := tx_t h
theorem bV_X {k : MM → OR} (h : 13 ≤ c ∧ c < 18) : bV (some (.inr c, M)) k = some (.inr c, M) := tx_t h
theorem bif_t {α : Type} {b : Bool} {x y : α} (h : b = true) : (bif b then x else y) = x := by rw [h]; rfl
theorem bif_f {α : Type} {b : Bool} {x y : α} (h : b = false) : (bif b then x else y) = y := by rw [h]; rfl
end EvRows
theorem up_eq {f : Nat → Int} {k : Nat} {x : Int} : up f k x k = x := if_pos rfl
theorem up_ne {f : Nat → Int} {k j : Nat} {x : Int} (h : j ≠ k) : up f k x j = f j := if_neg h
-- the tape takes four bytes
def by4 (v : Int) (j : Nat) : Int := iAnd (iUshr v (24 - 8 * (j : Int))) 255
def tpM (M : MM) (n m : Nat) (f : Nat → Int) : MM := fun a => if a = 2 then (fun k => if n ≤ k ∧ k < m then f (k - n) else M 2 k) else if a = 1 then up (M 1) 1 (m : Int) else M a
theorem tpM_step {M : MM} {n m : Nat} {f : Nat → Int} (hnm : n ≤ m) : mU (mU (tpM M n m f) 2 m (f (m - n))) 1 1 ((m : Int) + 1) = tpM M n (m + 1) f := by
  funext a k
  by_cases h1 : a = 1
  · subst h1
    rw [mU_eq]
    show up (up (M 1) 1 (m : Int)) 1 ((m : Int) + 1) k = up (M 1) 1 (((m + 1 : Nat)) : Int) k
    by_cases hk : k = 1
    · subst hk; rw [up_eq, up_eq]; omega
    · rw [up_ne hk, up_ne hk, up_ne hk]
  · rw [mU_ne h1]
    by_cases h2 : a = 2
    · subst h2
      rw [mU_eq]
      show up (fun k => if n ≤ k ∧ k < m then f (k - n) else M 2 k) m (f (m - n)) k = if n ≤ k ∧ k < m + 1 then f (k - n) else M 2 k
      by_cases hk : k = m
      · subst hk; rw [up_eq, if_pos (by omega)]
      · rw [up_ne hk]
        by_cases h3 : n ≤ k ∧ k < m
        · rw [if_pos h3, if_pos (by omega)]
        · rw [if_neg h3, if_neg (by omega)]
    · rw [mU_ne h2]
      show (if a = 2 then _ else if a = 1 then _ else M a) k = (if a = 2 then _ else if a = 1 then _ else M a) k
      rw [if_neg h2, if_neg h1, if_neg h2, if_neg h1]
theorem tape_append_step {M : MM} {v : Int} {K : MM → OR} {n m : Nat} {f : Nat → Int} {F : Nat} {sh : Int} (hnm : n ≤ m) (hm : m < 400) (hs : 0 ≤ sh ∧ sh ≤ 24) (hf : f (m - n) = iAnd (iUshr v sh) 255) :
    tape_append_L3 v K (F + 1) sh (tpM M n m f) = tape_append_L3 v K F (sh + (-8)) (tpM M n (m + 1) f) := by
  have e1 : (tpM M n m f) 1 1 = (m : Int) := rfl
  conv => lhs; unfold tape_append_L3
  rw [e1, bif_f (by rw [cq_lt (by omega) (by omega)]; exact decide_eq_false (by omega)), bif_f (by rw [cq_ge (by omega) (by omega)]; exact decide_eq_false (by omega)), bif_t (inB_n hm)]
  show tape_append_L3 v K F (sh + -8) (mU (mU (tpM M n m f) 2 (m : Int).toNat (iAnd (iUshr v sh) 255)) 1 1 ((mU (tpM M n m f) 2 (m : Int).toNat (iAnd (iUshr v sh) 255)) 1 1 + 1)) = _
  rw [Int.toNat_natCast, ← hf, ← tpM_step hnm]
  rfl
theorem tpM_0 {M : MM} {n : Nat} {f : Nat → Int} (h : M 1 1 = n) : tpM M n n f = M := by
  funext a k
  show (if a = 2 then (fun k => if n ≤ k ∧ k < n then f (k - n) else M 2 k) else if a = 1 then up (M 1) 1 (n : Int) else M a) k = _
  by_cases h2 : a = 2
  · subst h2
    rw [if_pos rfl]
    exact if_neg (by omega)
  · rw [if_neg h2]
    by_cases h1 : a = 1
    · subst h1
      rw [if_pos rfl]
      by_cases hk : k = 1
      · subst hk; rw [up_eq, h]
      · rw [up_ne hk]
    · rw [if_neg h1]
theorem tape_append_v {M : MM} {v : Int} {n m : Nat} {f : Nat → Int} (hnm : n ≤ m) (hm : m + 4 ≤ 400) (hf : ∀ j, j < 4 → f (m - n + j) = by4 v j) : tape_append v (tpM M n m f) = some (rV, tpM M n (m + 4) f) := by
  show tape_append_L3 v _ (999996 + 1 + 1 + 1 + 1) 24 (tpM M n m f) = _
  have h0 : f (m - n) = iAnd (iUshr v 24) 255 := hf 0 (by omega)
  have h1 : f (m + 1 - n) = iAnd (iUshr v (24 + -8)) 255 := (congrArg f (show m + 1 - n = m - n + 1 by omega)).trans (hf 1 (by omega))
  have h2 : f (m + 1 + 1 - n) = iAnd (iUshr v (24 + -8 + -8)) 255 := (congrArg f (show m + 1 + 1 - n = m - n + 2 by omega)).trans (hf 2 (by omega))
  have h3 : f (m + 1 + 1 + 1 - n) = iAnd (iUshr v (24 + -8 + -8 + -8)) 255 := (congrArg f (show m + 1 + 1 + 1 - n = m - n + 3 by omega)).trans (hf 3 (by omega))
  rw [tape_append_step hnm (by omega) (by decide) h0, tape_append_step (by omega) (by omega) (by decide) h1, tape_append_step (by omega) (by omega) (by decide) h2, tape_append_step (by omega) (by omega) (by decide) h3]
  rfl
theorem tape_feed_v {M : MM} {n : Nat} {a b c d e : Int} (hn : M 1 1 = n) (h : n + 20 ≤ 400) : gh_feed a b c d e M = some (rI ((n + 20 : Nat) : Int), tpM M n (n + 20) (fun j => by4 (if j / 4 = 0 then a else if j / 4 = 1 then b else if j / 4 = 2 then c else if j / 4 = 3 then d else e) (j % 4))) := by
  generalize hf : (fun j => by4 (if j / 4 = 0 then a else if j / 4 = 1 then b else if j / 4 = 2 then c else if j / 4 = 3 then d else e) (j % 4)) = f
  have key : ∀ (i : Nat) (v : Int), (∀ j, j < 4 → f (4 * i + j) = by4 v j) → 4 * i + 4 ≤ 20 → tape_append v (tpM M n (n + 4 * i) f) = some (rV, tpM M n (n + 4 * i + 4) f) := fun i v hv hi =>
    tape_append_v (by omega) (by omega) (fun j hj => by rw [show n + 4 * i - n + j = 4 * i + j by omega]; exact hv j hj)
  have q : ∀ (i j : Nat), j < 4 → f (4 * i + j) = by4 (if i = 0 then a else if i = 1 then b else if i = 2 then c else if i = 3 then d else e) j := fun i j hj => by
    rw [← hf]
    show by4 (if (4 * i + j) / 4 = 0 then a else if (4 * i + j) / 4 = 1 then b else if (4 * i + j) / 4 = 2 then c else if (4 * i + j) / 4 = 3 then d else e) ((4 * i + j) % 4) = _
    rw [show (4 * i + j) / 4 = i by omega, show (4 * i + j) % 4 = j by omega]
  unfold gh_feed
  rw [bif_t (by rw [cq_le (by omega) (by decide), hn]; exact decide_eq_true (by omega))]
  have k0 := key 0 a (q 0) (by omega)
  have k1 := key 1 b (q 1) (by omega)
  have k2 := key 2 c (q 2) (by omega)
  have k3 := key 3 d (q 3) (by omega)
  have k4 := key 4 e (q 4) (by omega)
  rw [show n + 4 * 0 = n from rfl, tpM_0 hn] at k0
  rw [k0, bV_V, show n + 4 = n + 4 * 1 from rfl, k1, bV_V, show n + 4 * 1 + 4 = n + 4 * 2 from rfl, k2, bV_V, show n + 4 * 2 + 4 = n + 4 * 3 from rfl, k3, bV_V, show n + 4 * 3 + 4 = n + 4 * 4 from rfl, k4, bV_V]
  rfl
/-- a row is filled from n up to m -/
def flM (M : MM) (a n m : Nat) (g : Nat → Int) : MM := mV M a (fun j => if n ≤ j ∧ j < m then g (j - n) else M a j)
theorem flM_ne {M : MM} {a n m b : Nat} {g : Nat → Int} (h : b ≠ a) : flM M a n m g b = M b := mV_ne h
theorem flM_step {M : MM} {a n m : Nat} {g : Nat → Int} {x : Int} (hnm : n ≤ m) (hx : x = g (m - n)) : mU (flM M a n m g) a m x = flM M a n (m + 1) g := by
  subst hx
  funext b k
  by_cases h : b = a
  · subst h
    rw [mU_eq]
    unfold flM
    rw [mV_eq, mV_eq]
    by_cases hk : k = m
    · subst hk; rw [up_eq]; exact (if_pos (by omega)).symm
    · rw [up_ne hk]
      by_cases h3 : n ≤ k ∧ k < m
      · exact (if_pos h3).trans (if_pos (by omega)).symm
      · exact (if_neg h3).trans (if_neg (by omega)).symm
  · rw [mU_ne h, flM_ne h, flM_ne h]
theorem flM_0 {M : MM} {a n : Nat} {g : Nat → Int} : flM M a n n g = M := by
  funext b k
  by_cases h : b = a
  · subst h
    unfold flM
    rw [mV_eq]
    exact if_neg (by omega)
  · rw [flM_ne h]
theorem mo_feed_L60_v {M : MM} {K : MM → OR} {n : Nat} {g : Nat → Int} {F : Nat} (hn : M 165 8 = n) (h : n + 20 ≤ 400) (hg : ∀ j, j < 20 → g j = nB (iB (iShr (M 171 (j / 4)) (24 - 8 * ((j % 4 : Nat) : Int))))) :
    ∀ (i k : Nat), i + k = 20 → mo_feed_L60 K (F + 1 + i) (k : Int) (flM M 170 n (n + k) g) = K (flM M 170 n (n + 20) g)
  | 0, k, hk => by
    obtain rfl : k = 20 := by omega
    show mo_feed_L60 K (F + 1) _ _ = _
    unfold mo_feed_L60
    rw [bif_t (by decide +kernel)]
  | i + 1, k, hk => by
    show mo_feed_L60 K ((F + 1 + i) + 1) _ _ = _
    have e8 : (flM M 170 n (n + k) g) 165 8 = n := hn
    have e4 : (w32 (k : Int)).tdiv (w32 4) = ((k / 4 : Nat) : Int) := by rw [nw (by omega), nw (by decide)]; exact (Int.ofNat_tdiv k 4).symm
    have e5 : (w32 (k : Int)).tmod (w32 4) = ((k % 4 : Nat) : Int) := by rw [nw (by omega), nw (by decide)]; exact (Int.ofNat_tmod k 4).symm
    unfold mo_feed_L60
    rw [bif_f (by rw [cq_ge (by omega) (by decide)]; exact decide_eq_false (by omega)), e4, e5, bif_t (inB_n (by omega)), e8, show (n : Int) + (k : Int) = ((n + k : Nat) : Int) by omega, bif_t (inB_n (by omega)), Int.toNat_natCast, Int.toNat_natCast]
    show mo_feed_L60 K (F + 1 + i) _ (mU (flM M 170 n (n + k) g) 170 (n + k) (nB (iB (iShr (M 171 (k / 4)) _)))) = _
    rw [flM_step (by omega) (by rw [show n + k - n = k by omega]; exact (hg k (by omega)).symm), show (k : Int) + 1 = ((k + 1 : Nat) : Int) by omega, show n + k + 1 = n + (k + 1) by omega]
    exact mo_feed_L60_v hn h hg i (k + 1) (by omega)
