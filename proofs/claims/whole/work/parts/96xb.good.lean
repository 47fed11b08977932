/-! ===== STATES THAT CAN BE COME TO: what holds of them ===== -/
section Vw
variable {s t v p b : Nat}
theorem wtT (ht : t < 10) (hv : v < 4) : fd (wt s (14 + 2 * t) 2 v) 0 5 = fd s 0 5 ∧ fd (wt s (14 + 2 * t) 2 v) 5 4 = fd s 5 4 ∧ fd (wt s (14 + 2 * t) 2 v) 9 5 = fd s 9 5 ∧ fd (wt s (14 + 2 * t) 2 v) 34 10 = fd s 34 10 ∧ fd (wt s (14 + 2 * t) 2 v) 44 7 = fd s 44 7 :=
  ⟨fd_ne (by omega) hv (by omega), fd_ne (by omega) hv (by omega), fd_ne (by omega) hv (by omega), fd_ne (by omega) hv (by omega), fd_ne (by omega) hv (by omega)⟩
theorem wtP (hp : p < 10) : fd (wt s (34 + p) 1 1) 0 5 = fd s 0 5 ∧ fd (wt s (34 + p) 1 1) 5 4 = fd s 5 4 ∧ fd (wt s (34 + p) 1 1) 9 5 = fd s 9 5 ∧ fd (wt s (34 + p) 1 1) 44 7 = fd s 44 7 ∧ (∀ i, (fd (wt s (34 + p) 1 1) 34 10).testBit i = if i = p then true else (fd s 34 10).testBit i) ∧ ∀ i, i < 10 → sG (wt s (34 + p) 1 1) i = sG s i :=
  ⟨fd_ne (by omega) (by decide) (by omega), fd_ne (by omega) (by decide) (by omega), fd_ne (by omega) (by decide) (by omega), fd_ne (by omega) (by decide) (by omega), fun i => fd_in (by omega) hp, fun i hi => fd_ne (by omega) (by decide) (by omega)⟩
theorem wtB (hb : b < 7) : fd (wt s (44 + b) 1 1) 0 5 = fd s 0 5 ∧ fd (wt s (44 + b) 1 1) 5 4 = fd s 5 4 ∧ fd (wt s (44 + b) 1 1) 9 5 = fd s 9 5 ∧ fd (wt s (44 + b) 1 1) 34 10 = fd s 34 10 ∧ (∀ i, (fd (wt s (44 + b) 1 1) 44 7).testBit i = if i = b then true else (fd s 44 7).testBit i) ∧ ∀ i, i < 10 → sG (wt s (44 + b) 1 1) i = sG s i :=
  ⟨fd_ne (by omega) (by decide) (by omega), fd_ne (by omega) (by decide) (by omega), fd_ne (by omega) (by decide) (by omega), fd_ne (by omega) (by decide) (by omega), fun i => fd_in (by omega) hb, fun i hi => fd_ne (by omega) (by decide) (by omega)⟩
theorem wtG {h q r : Nat} (hh : h < 32) (hq : q < 16) (hr : r < 32) : fd (wt (wt (wt s 0 5 h) 5 4 q) 9 5 r) 0 5 = h ∧ fd (wt (wt (wt s 0 5 h) 5 4 q) 9 5 r) 5 4 = q ∧ fd (wt (wt (wt s 0 5 h) 5 4 q) 9 5 r) 9 5 = r ∧ fd (wt (wt (wt s 0 5 h) 5 4 q) 9 5 r) 34 10 = fd s 34 10 ∧ fd (wt (wt (wt s 0 5 h) 5 4 q) 9 5 r) 44 7 = fd s 44 7 ∧ ∀ i, i < 10 → sG (wt (wt (wt s 0 5 h) 5 4 q) 9 5 r) i = sG s i := by
  have hh' : h < 2 ^ 5 := hh
  have hq' : q < 2 ^ 4 := hq
  have hr' : r < 2 ^ 5 := hr
  refine ⟨?_, ?_, fd_same (by omega) hr', ?_, ?_, fun i hi => ?_⟩
  · rw [fd_ne (by omega) hr' (by omega), fd_ne (by omega) hq' (by omega), fd_same (by omega) hh']
  · rw [fd_ne (by omega) hr' (by omega), fd_same (by omega) hq']
  · rw [fd_ne (by omega) hr' (by omega), fd_ne (by omega) hq' (by omega), fd_ne (by omega) hh' (by omega)]
  · rw [fd_ne (by omega) hr' (by omega), fd_ne (by omega) hq' (by omega), fd_ne (by omega) hh' (by omega)]
  · show fd _ (14 + 2 * i) 2 = fd _ (14 + 2 * i) 2
    rw [fd_ne (by omega) hr' (by omega), fd_ne (by omega) hq' (by omega), fd_ne (by omega) hh' (by omega)]
theorem wtW (h : fd s 0 5 < 31) : fd (s + 1) 0 5 = fd s 0 5 + 1 ∧ fd (s + 1) 5 4 = fd s 5 4 ∧ fd (s + 1) 9 5 = fd s 9 5 ∧ fd (s + 1) 34 10 = fd s 34 10 ∧ fd (s + 1) 44 7 = fd s 44 7 ∧ ∀ i, sG (s + 1) i = sG s i := by
  have h0 : fd s 0 5 = s % 32 := by
    unfold fd
    rw [Nat.shiftRight_zero]
  have h1 : fd (s + 1) 0 5 = (s + 1) % 32 := by
    unfold fd
    rw [Nat.shiftRight_zero]
  have hd : (s + 1) / 32 = s / 32 := by omega
  have hi : ∀ f b, 5 ≤ f → fd (s + 1) f b = fd s f b := fun f b hf => by
    unfold fd
    rw [Nat.shiftRight_eq_div_pow, Nat.shiftRight_eq_div_pow]
    obtain ⟨c, rfl⟩ : ∃ c, f = 5 + c := ⟨f - 5, by omega⟩
    rw [Nat.pow_add, ← Nat.div_div_eq_div_mul, ← Nat.div_div_eq_div_mul, show (2 : Nat) ^ 5 = 32 from rfl, hd]
  exact ⟨by omega, hi 5 4 (by decide), hi 9 5 (by decide), hi 34 10 (by decide), hi 44 7 (by decide), fun i => hi (14 + 2 * i) 2 (by omega)⟩
theorem pk_ext {u : Nat} (hs : PK s) (hu : PK u) (e0 : fd s 0 5 = fd u 0 5) (e5 : fd s 5 4 = fd u 5 4) (e9 : fd s 9 5 = fd u 9 5) (eg : ∀ i, i < 10 → sG s i = sG u i) (e34 : fd s 34 10 = fd u 34 10) (e44 : fd s 44 7 = fd u 44 7) : s = u := by
  have bt : ∀ f b i, fd s f b = fd u f b → f ≤ i → i < f + b → s.testBit i = u.testBit i := fun f b i e h1 h2 => by
    have g1 := fd_bit s f b (i - f)
    have g2 := fd_bit u f b (i - f)
    rw [decide_eq_true (show i - f < b by omega), Bool.true_and, show f + (i - f) = i by omega] at g1 g2
    rw [← g1, ← g2, e]
  apply Nat.eq_of_testBit_eq
  intro i
  by_cases h5 : i < 5
  · exact bt 0 5 i e0 (by omega) (by omega)
  by_cases h9 : i < 9
  · exact bt 5 4 i e5 (by omega) (by omega)
  by_cases h14 : i < 14
  · exact bt 9 5 i e9 (by omega) (by omega)
  by_cases h34 : i < 34
  · exact bt (14 + 2 * ((i - 14) / 2)) 2 i (eg ((i - 14) / 2) (by omega)) (by omega) (by omega)
  by_cases h44 : i < 44
  · exact bt 34 10 i e34 (by omega) (by omega)
  by_cases h51 : i < 51
  · exact bt 44 7 i e44 (by omega) (by omega)
  · have hs' : s < 2 ^ 51 := hs
    have hu' : u < 2 ^ 51 := hu
    rw [Nat.testBit_lt_two_pow (Nat.lt_of_lt_of_le hs' (Nat.pow_le_pow_right (by decide) (by omega))), Nat.testBit_lt_two_pow (Nat.lt_of_lt_of_le hu' (Nat.pow_le_pow_right (by decide) (by omega)))]
end Vw
theorem pd0_g {w : Nat → Int} {s t : Nat} (hp : fd s 5 4 < 10) (ht : t < 10) {i : Nat} (hi : i < 10) : sG (sPd0 w s t) i = if i = t ∧ oP w (sPl s) 5 = 1 then 3 else sG s i := by
  obtain ⟨p0, p1, p2, p3, p4, p5⟩ := wtP (s := s) hp
  unfold sPd0
  by_cases h : oP w (sPl s) 5 = 1
  · rw [decide_eq_true h, cn_t, sG_wt ht hi (by decide), p5 i hi]
    by_cases e : i = t
    · rw [if_pos e, if_pos ⟨e, h⟩]
    · rw [if_neg e, if_neg (fun g => e g.1)]
  · rw [decide_eq_false h, cn_f, p5 i hi, if_neg (fun g => h g.2)]
/-- paying: what becomes of it -/
theorem pyV {w : Nat → Int} {s t : Nat} (hp : fd s 5 4 < 10) (ht : t < 10) (hg : oP w (sPl s) 6 < 10) : ∃ room : Nat, room = (if cnt (sCar w (sPd0 w s t)).testBit 10 < 4 then 2 else 0) ∧ fd (sPd w s t) 0 5 = fd s 0 5 ∧ fd (sPd w s t) 5 4 = fd s 5 4 ∧ fd (sPd w s t) 9 5 = fd s 9 5 ∧ fd (sPd w s t) 44 7 = fd s 44 7 ∧ (∀ i, (fd (sPd w s t) 34 10).testBit i = if i = fd s 5 4 then true else (fd s 34 10).testBit i) ∧ ∀ i, i < 10 → sG (sPd w s t) i = if oP w (sPl s) 6 = i then room else if i = t ∧ oP w (sPl s) 5 = 1 then 3 else sG s i := by
  obtain ⟨p0, p1, p2, p3, p4, p5⟩ := wtP (s := s) hp
  have k0 : fd (sPd0 w s t) 0 5 = fd s 0 5 ∧ fd (sPd0 w s t) 5 4 = fd s 5 4 ∧ fd (sPd0 w s t) 9 5 = fd s 9 5 ∧ fd (sPd0 w s t) 44 7 = fd s 44 7 ∧ (∀ i, (fd (sPd0 w s t) 34 10).testBit i = if i = fd s 5 4 then true else (fd s 34 10).testBit i) ∧ ∀ i, i < 10 → sG (sPd0 w s t) i = if i = t ∧ oP w (sPl s) 5 = 1 then 3 else sG s i := by
    unfold sPd0
    by_cases h : oP w (sPl s) 5 = 1
    · obtain ⟨q0, q1, q2, q3, q4⟩ := wtT (s := wt s (34 + fd s 5 4) 1 1) ht (show 3 < 4 by decide)
      rw [decide_eq_true h, cn_t, q0, q1, q2, q3, q4, p0, p1, p2, p3]
      refine ⟨rfl, rfl, rfl, rfl, p4, fun i hi => ?_⟩
      rw [sG_wt ht hi (by decide), p5 i hi]
      by_cases e : i = t
      · rw [if_pos e, if_pos ⟨e, h⟩]
      · rw [if_neg e, if_neg (fun g => e g.1)]
    · rw [decide_eq_false h, cn_f, p0, p1, p2, p3]
      refine ⟨rfl, rfl, rfl, rfl, p4, fun i hi => ?_⟩
      rw [p5 i hi, if_neg (fun g => h g.2)]
  obtain ⟨k0, k1, k2, k3, k4, k5⟩ := k0
  refine ⟨_, rfl, ?_⟩
  have hr : (if cnt (sCar w (sPd0 w s t)).testBit 10 < 4 then 2 else 0) < 4 := by split <;> decide
  unfold sPd
  by_cases hg0 : 0 ≤ oP w (sPl s) 6
  · rw [if_pos hg0]
    generalize (if cnt (sCar w (sPd0 w s t)).testBit 10 < 4 then 2 else 0) = room at hr ⊢
    obtain ⟨q0, q1, q2, q3, q4⟩ := wtT (s := sPd0 w s t) (show (oP w (sPl s) 6).toNat < 10 by omega) hr
    rw [q0, q1, q2, q3, q4]
    refine ⟨k0, k1, k2, k3, k4, fun i hi => ?_⟩
    rw [sG_wt (by omega) hi hr, k5 i hi]
    by_cases e : oP w (sPl s) 6 = i
    · rw [if_pos e, if_pos (by omega)]
    · rw [if_neg e, if_neg (by omega)]
  · rw [if_neg hg0]
    refine ⟨k0, k1, k2, k3, k4, fun i hi => ?_⟩
    rw [k5 i hi, if_neg (show ¬ oP w (sPl s) 6 = i by omega)]
def GS (w : Nat → Int) (s : Nat) : Prop := PK s ∧ ((fd s 5 4 : Int) < w 0 ∧ (fd s 9 5 : Int) ≤ w 2 ∧ fd s 0 5 ≤ 30) ∧ (∀ t : Nat, t < 10 → w 1 ≤ (t : Int) → sG s t = 0) ∧ (∀ t : Nat, (t : Int) < w 1 → sG s t = 1 → oT w (t : Int) 2 = 1) ∧ (∀ t : Nat, (t : Int) < w 1 → sG s t = 0 → oT w (t : Int) 2 = 1 → oP w (oT w (t : Int) 3) 0 = 1 ∧ oP w (oT w (t : Int) 3) 6 = t) ∧ (∀ p : Nat, (p : Int) < w 0 → oP w (p : Int) 7 = 1 → (fd s 34 10).testBit p = true) ∧ (∀ p : Nat, (p : Int) < w 0 → oP w (p : Int) 0 = 1 → 0 ≤ oP w (p : Int) 6 → (fd s 34 10).testBit p = false → sG s (oP w (p : Int) 6).toNat = 1) ∧ ∀ t : Nat, (t : Int) < w 1 → sG s t = 0 → oT w (t : Int) 2 = 0 ∨ oT w (t : Int) 2 = 1
section Good
variable {w : Nat → Int} {n s u : Nat}
theorem GS_now (hW : WF n w) (hz : w 0 ≠ 0) : GS w (nowS w) := by
  obtain ⟨hC, hP, hT, hR, hB, hG, hL⟩ := hW
  obtain ⟨⟨f0, f1, f2, f3, f4, f5⟩, f6, f7⟩ := nowS_f hC hT
  obtain ⟨c0, c1, c2, c3, c4, c5, c6, c7, c8, c9, c10⟩ := hC
  refine ⟨f0, ⟨by rw [f2]; rcases c7.2 with g | g <;> omega, by rw [f3]; omega, by omega⟩, fun t ht h1 => f7 t h1 ht, fun t ht h => by have := f6 t ht; omega, fun t ht h h2 => by have := f6 t ht; omega, fun p hp h => ?_, fun p hp h0 h6 hb => ?_, fun t ht h => by have := f6 t ht; omega⟩
  · rw [f4, bset_bit]
    unfold paB
    rw [decide_eq_true hp, decide_eq_true h, decide_eq_true (show p < 10 by omega)]; rfl
  · have hpp := hP (p : Int) (by omega) hp
    have h7 : oP w (p : Int) 7 = 0 := by
      rcases hpp.2.2.2.2.2.2.1 with g | g
      · exact g
      · rw [f4, bset_bit] at hb
        unfold paB at hb
        rw [decide_eq_true hp, decide_eq_true g, decide_eq_true (show p < 10 by omega)] at hb
        exact absurd hb (by decide)
    have g1 := (hG.1 (p : Int) (by omega) hp h6).1.mp h7
    have g2 := f6 (oP w (p : Int) 6).toNat (by omega)
    rw [show (((oP w (p : Int) 6).toNat : Nat) : Int) = oP w (p : Int) 6 by omega, g1] at g2
    omega
theorem GS_of {u : Nat} (h : GS w s) (hu : PK u) (h1 : (fd u 5 4 : Int) < w 0 ∧ (fd u 9 5 : Int) ≤ w 2 ∧ fd u 0 5 ≤ 30) (h34 : fd u 34 10 = fd s 34 10) (hg : ∀ t : Nat, t < 10 → sG u t = sG s t) (c0 : w 1 ≤ 10) (cg : ∀ p : Nat, (p : Int) < w 0 → oP w (p : Int) 6 < w 1) : GS w u := by
  obtain ⟨g0, g1, g2, g3, g4, g5, g6, g7⟩ := h
  refine ⟨hu, h1, fun t ht hl => by rw [hg t ht]; exact g2 t ht hl, fun t ht => by rw [hg t (by omega)]; exact g3 t ht, fun t ht => by rw [hg t (by omega)]; exact g4 t ht, fun p hp => by rw [h34]; exact g5 p hp, fun p hp h0 h6 => ?_, fun t ht => by rw [hg t (by omega)]; exact g7 t ht⟩
  have := cg p hp
  rw [h34, hg _ (by omega)]
  exact g6 p hp h0 h6
theorem GS_suc (hW : WF n w) (h : GS w s) (hu : Suc w s u) : GS w u := by
  have hW' := hW
  obtain ⟨hC, hP, hT, hR, hB, hG, hL⟩ := hW'
  obtain ⟨c0, c1, c2, c3, c4, c5, c6, c7, c8, c9, c10⟩ := hC
  have h' := h
  obtain ⟨g0, g1, g2, g3, g4, g5, g6, g9⟩ := h'
  have cg : ∀ p : Nat, (p : Int) < w 0 → oP w (p : Int) 6 < w 1 := fun p hp => (hP (p : Int) (by omega) hp).2.2.2.2.2.1.2
  have hpl : sPl s = (fd s 5 4 : Int) := rfl
  rcases hu with ⟨h30, hw⟩ | ⟨r, hr, hgo⟩ | ⟨t, ht, hpy | htk⟩ | ⟨b, hb, hfr⟩
  · unfold sWt at hw
    split at hw
    · exact absurd hw (by simp)
    · obtain rfl := Option.some.inj hw
      obtain ⟨w0, w1, w2, w3, w4, w5⟩ := wtW (s := s) (by omega)
      refine GS_of h ?_ ⟨by rw [w1]; exact g1.1, by rw [w2]; exact g1.2.1, by rw [w0]; omega⟩ w3 (fun t _ => w5 t) c1.2 cg
      have g0' : s < 2251799813685248 := g0
      have : fd s 0 5 = s % 32 := by
        unfold fd
        rw [Nat.shiftRight_zero]
      show s + 1 < 2251799813685248
      omega
  · unfold sGo at hgo
    split at hgo
    · rename_i hc
      obtain rfl := Option.some.inj hgo
      have hsc := hc.1
      unfold sCan at hsc
      rw [Bool.and_eq_true] at hsc
      have hoe := of_decide_eq_true hsc.1
      have hrr := hR (r : Int) (by omega) hr
      have hoe2 : oE w (r : Int) (sPl s) < w 0 := by
        unfold oE
        split
        · exact hrr.2.1.2
        · split
          · exact hrr.1.2
          · omega
      obtain ⟨q0, q1, q2, q3, q4, q5⟩ := wtG (s := s) (h := ((fd s 0 5 : Int) + sHr w s r).toNat) (q := (oE w (r : Int) (sPl s)).toNat) (r := ((r : Int) + 1).toNat) (by omega) (by omega) (by omega)
      refine GS_of h ?_ ⟨by rw [q1]; omega, by rw [q2]; omega, by rw [q0]; omega⟩ q3 q5 c1.2 cg
      exact wt_PK (wt_PK (wt_PK g0 (show _ < 32 by omega) (by omega)) (show _ < 16 by omega) (by omega)) (show _ < 32 by omega) (by omega)
    · exact absurd hgo (by simp)
  · unfold sPy at hpy
    split at hpy
    · rename_i hc
      obtain rfl := Option.some.inj hpy
      obtain ⟨hk, hbit, hst, hfit⟩ := hc
      have hp10 : fd s 5 4 < 10 := by omega
      have hgl := cg (fd s 5 4) g1.1
      rw [← hpl] at hgl
      obtain ⟨room, hroom, q0, q1, q2, q3, q4, q5⟩ := pyV (w := w) (s := s) (t := t) hp10 (by omega) (by omega)
      have hr2 : room = 2 ∨ room = 0 := by rw [hroom]; split <;> simp
      have hgift : 0 ≤ oP w (sPl s) 6 → sG s (oP w (sPl s) 6).toNat = 1 := fun hg0 => g6 (fd s 5 4) g1.1 hk hg0 hbit
      refine ⟨sPd_PK g0 hp10 (by omega) (by omega), ⟨by rw [q1]; exact g1.1, by rw [q2]; exact g1.2.1, by rw [q0]; exact g1.2.2⟩, fun i hi hl => ?_, fun i hi h1 => ?_, fun i hi h0 h1 => ?_, fun p hp h7 => ?_, fun p hp h0 h6 hb => ?_, fun i hi h0 => ?_⟩
      · rw [q5 i hi, if_neg (by omega), if_neg (by omega)]
        exact g2 i hi hl
      · rw [q5 i (by omega)] at h1
        split at h1
        · omega
        · split at h1
          · omega
          · exact g3 i hi h1
      · rw [q5 i (by omega)] at h0
        split at h0
        · rename_i e
          have hg0 : 0 ≤ oP w (sPl s) 6 := by omega
          have h7 : oP w (sPl s) 7 = 0 := by
            rcases (hP (sPl s) (by omega) g1.1).2.2.2.2.2.2.1 with g | g
            · exact g
            · have := g5 (fd s 5 4) g1.1 g
              rw [hbit] at this
              exact absurd this (by decide)
          have g7 := (hG.1 (sPl s) (by omega) g1.1 hg0).2 h7
          rw [e] at g7
          rw [g7]
          exact ⟨hk, e⟩
        · split at h0
          · omega
          · exact g4 i hi h0 h1
      · rw [q4]
        split
        · rfl
        · exact g5 p hp h7
      · rw [q4] at hb
        split at hb
        · exact absurd hb (by decide)
        · rename_i hne
          have g8 := g6 p hp h0 h6 hb
          have hl := cg p hp
          rw [q5 _ (by omega), if_neg (fun e => ?_), if_neg (fun e => ?_)]
          · exact g8
          · rw [e.1, hst] at g8
            omega
          · have e2 : oP w (sPl s) 6 = oP w (p : Int) 6 := by omega
            have := hG.2 (sPl s) (p : Int) (by omega) g1.1 (by omega) hp (by omega) e2
            omega
      · rw [q5 i (by omega)] at h0
        split at h0
        · rename_i e
          have hg0 : 0 ≤ oP w (sPl s) 6 := by omega
          have h1 := hgift hg0
          rw [e, Int.toNat_natCast] at h1
          exact Or.inr (g3 i hi h1)
        · split at h0
          · omega
          · exact g9 i hi h0
    · exact absurd hpy (by simp)
  · unfold sTk at htk
    split at htk
    · rename_i hc
      obtain rfl := Option.some.inj htk
      obtain ⟨h0, hpl2, hroom⟩ := hc
      obtain ⟨q0, q1, q2, q3, q4⟩ := wtT (s := s) (show t < 10 by omega) (show 2 < 4 by decide)
      have q5 : ∀ i, i < 10 → sG (wt s (14 + 2 * t) 2 2) i = if i = t then 2 else sG s i := fun i hi => sG_wt (by omega) hi (by decide)
      refine ⟨wt_PK g0 (by decide) (by omega), ⟨by rw [q1]; exact g1.1, by rw [q2]; exact g1.2.1, by rw [q0]; exact g1.2.2⟩, fun i hi hl => ?_, fun i hi h1 => ?_, fun i hi h1 h2 => ?_, fun p hp h7 => by rw [q3]; exact g5 p hp h7, fun p hp hk h6 hb => ?_, fun i hi h1 => ?_⟩
      · rw [q5 i hi, if_neg (by omega)]
        exact g2 i hi hl
      · rw [q5 i (by omega)] at h1
        split at h1
        · omega
        · exact g3 i hi h1
      · rw [q5 i (by omega)] at h1
        split at h1
        · omega
        · exact g4 i hi h1 h2
      · rw [q3] at hb
        have g8 := g6 p hp hk h6 hb
        have hl := cg p hp
        rw [q5 _ (by omega), if_neg (fun e => ?_)]
        · exact g8
        · rw [e, h0] at g8
          omega
      · rw [q5 i (by omega)] at h1
        split at h1
        · omega
        · exact g9 i hi h1
    · exact absurd htk (by simp)
  · unfold sFr at hfr
    split at hfr
    · obtain rfl := Option.some.inj hfr
      obtain ⟨q0, q1, q2, q3, q4, q5⟩ := wtB (s := s) (show b < 7 by omega)
      exact GS_of h (wt_PK g0 (by decide) (by omega)) ⟨by rw [q1]; exact g1.1, by rw [q2]; exact g1.2.1, by rw [q0]; exact g1.2.2⟩ q3 q5 c1.2 cg
    · exact absurd hfr (by simp)
theorem GS_rch (hW : WF n w) (hz : w 0 ≠ 0) {s : Nat} (h : Rch w s) : GS w s := by
  obtain ⟨m, hm⟩ := h
  have : ∀ m s, Rchn w m s → GS w s := by
    intro m
    induction m with
    | zero =>
      intro s hs
      have hs' : s = nowS w := hs
      rw [hs']
      exact GS_now hW hz
    | succ m ih =>
      intro s hs
      rcases hs with hs | ⟨v, hv, hs⟩
      · exact ih s hs
      · exact GS_suc hW (ih v hv) hs
  exact this m s hm
theorem Rch_now : Rch w (nowS w) := ⟨0, rfl⟩
theorem Rch_suc {s u : Nat} (h : Rch w s) (hu : Suc w s u) : Rch w u := by
  obtain ⟨m, hm⟩ := h
  exact ⟨m + 1, Or.inr ⟨s, hm, hu⟩⟩
theorem closed_all {n : Nat} {f : Nat → Nat} (h0 : ∃ i, i < n ∧ f i = nowS w) (hc : ∀ i, i < n → ∀ u, Suc w (f i) u → ∃ j, j < n ∧ f j = u) {s : Nat} (h : Rch w s) : ∃ i, i < n ∧ f i = s := by
  obtain ⟨m, hm⟩ := h
  have : ∀ m s, Rchn w m s → ∃ i, i < n ∧ f i = s := by
    intro m
    induction m with
    | zero =>
      intro s hs
      have hs' : s = nowS w := hs
      rw [hs']
      exact h0
    | succ m ih =>
      intro s hs
      rcases hs with hs | ⟨v, hv, hs⟩
      · exact ih s hs
      · obtain ⟨i, hi, rfl⟩ := ih v hv
        exact hc i hi s hs
  exact this m s hm
end Good
