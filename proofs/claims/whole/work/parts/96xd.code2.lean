/-! ===== THE CLASS'S CODE: going, paying, the first ===== -/
section Ck2
variable {w : Nat → Int} {s u : Nat}
theorem tb_sh {x m i n : Nat} (hx : x < 2 ^ n) : (x <<< m).testBit i = (decide (m ≤ i) && (decide (i < m + n) && x.testBit (i - m))) := by
  rw [Nat.testBit_shiftLeft]
  by_cases h : m ≤ i
  · rw [decide_eq_true (show i ≥ m from h), Bool.true_and, Bool.true_and]
    by_cases h2 : i < m + n
    · rw [decide_eq_true h2, Bool.true_and]
    · rw [decide_eq_false h2, Bool.false_and, Nat.testBit_lt_two_pow (Nat.lt_of_lt_of_le hx (Nat.pow_le_pow_right (by decide) (by omega)))]
  · rw [decide_eq_false (show ¬ i ≥ m from h), Bool.false_and, Bool.false_and]
theorem tb_lo {c m i : Nat} : (c &&& (2 ^ m - 1)).testBit i = (c.testBit i && decide (i < m)) := by rw [Nat.testBit_and, Nat.testBit_two_pow_sub_one]
theorem sh61 {x m n : Nat} (hx : x < 2 ^ n) (h : m + n ≤ 61) : x <<< m < 2 ^ 61 := by
  rw [Nat.shiftLeft_eq, Nat.mul_comm]
  exact Nat.lt_of_lt_of_le (Nat.mul_lt_mul_of_pos_left hx (Nat.two_pow_pos m)) (by rw [← Nat.pow_add]; exact Nat.pow_le_pow_right (by decide) h)
theorem ck_go {h q r : Nat} (hh : h < 32) (hq : q < 16) (hr : r < 32) : cpk w (wt (wt (wt s 0 5 h) 5 4 q) 9 5 r) = (cpk w s &&& (2 ^ 47 - 1)) ||| q <<< 47 ||| r <<< 51 ||| h <<< 56 := by
  obtain ⟨q0, q1, q2, q3, q4, q5⟩ := wtG (s := s) hh hq hr
  have hh' : h < 2 ^ 5 := hh
  have hq' : q < 2 ^ 4 := hq
  have hr' : r < 2 ^ 5 := hr
  have bits : ∀ i, ((cpk w s &&& (2 ^ 47 - 1)) ||| q <<< 47 ||| r <<< 51 ||| h <<< 56).testBit i = (((((cpk w s).testBit i && decide (i < 47)) || (decide (47 ≤ i) && (decide (i < 47 + 4) && q.testBit (i - 47)))) || (decide (51 ≤ i) && (decide (i < 51 + 5) && r.testBit (i - 51)))) || (decide (56 ≤ i) && (decide (i < 56 + 5) && h.testBit (i - 56)))) := fun i => by
    rw [Nat.testBit_or, Nat.testBit_or, Nat.testBit_or, tb_lo, tb_sh hq', tb_sh hr', tb_sh hh']
  have low : ∀ i, i < 47 → ((cpk w s &&& (2 ^ 47 - 1)) ||| q <<< 47 ||| r <<< 51 ||| h <<< 56).testBit i = cpB w s i := fun i hi => by
    rw [bits, ck (by omega), decide_eq_true hi, decide_eq_false (by omega : ¬ 47 ≤ i), decide_eq_false (by omega : ¬ 51 ≤ i), decide_eq_false (by omega : ¬ 56 ≤ i)]; simp
  refine ck_ext cpk_lt (Nat.or_lt_two_pow (Nat.or_lt_two_pow (Nat.or_lt_two_pow (and61 cpk_lt) (sh61 hq' (by decide))) (sh61 hr' (by decide))) (sh61 hh' (by decide))) (fun j hj => ?_) (fun j hj => ?_) (fun j hj => ?_) (fun j hj => ?_) (fun j hj => ?_) (fun j hj => ?_) (fun j hj => ?_) (fun j hj => ?_)
  · rw [low _ (by omega), ck (by omega), cpB_0 hj, cpB_0 hj, q5 j hj]
  · rw [low _ (by omega), ck (by omega), cpB_1 hj, cpB_1 hj, q5 j hj]
  · rw [low _ (by omega), ck (by omega), cpB_2 hj, cpB_2 hj, q5 j hj]
  · rw [low _ (by omega), ck (by omega), cpB_3 hj, cpB_3 hj, q3]
  · rw [low _ (by omega), ck (by omega), cpB_4 hj, cpB_4 hj, q4]
  · rw [bits, ck (by omega), cpB_5 hj, q1, decide_eq_false (by omega : ¬ 47 + j < 47), decide_eq_true (by omega : 47 ≤ 47 + j), decide_eq_true (by omega : 47 + j < 47 + 4), decide_eq_false (by omega : ¬ 51 ≤ 47 + j), decide_eq_false (by omega : ¬ 56 ≤ 47 + j), show 47 + j - 47 = j by omega]; simp
  · rw [bits, ck (by omega), cpB_6 hj, q2, decide_eq_false (by omega : ¬ 51 + j < 47), decide_eq_false (by omega : ¬ 51 + j < 47 + 4), decide_eq_true (by omega : 51 ≤ 51 + j), decide_eq_true (by omega : 51 + j < 51 + 5), decide_eq_false (by omega : ¬ 56 ≤ 51 + j), show 51 + j - 51 = j by omega]; simp
  · rw [bits, ck (by omega), cpB_7, q0, decide_eq_false (by omega : ¬ 56 + j < 47), decide_eq_false (by omega : ¬ 56 + j < 47 + 4), decide_eq_false (by omega : ¬ 56 + j < 51 + 5), decide_eq_true (by omega : 56 ≤ 56 + j), decide_eq_true (by omega : 56 + j < 56 + 5), show 56 + j - 56 = j by omega]; simp
/-- paying, in the code: his pass, the thing that goes, his gift -/
def pyK (c p t : Nat) (tk : Bool) (g : Option (Nat × Bool)) : Nat :=
  let c1 := c ||| 2 ^ (30 + p)
  let c2 := bif tk then (c1 &&& (9223372036854775807 ^^^ 2 ^ t)) ||| 2 ^ (10 + t) else c1
  match g with
  | none => c2
  | some (g, room) => c2 ||| 2 ^ (bif room then g else 20 + g)
theorem py_bit {c p t : Nat} {tk : Bool} {i : Nat} (hi : i < 63) : (bif tk then ((c ||| 2 ^ (30 + p)) &&& (9223372036854775807 ^^^ 2 ^ t)) ||| 2 ^ (10 + t) else (c ||| 2 ^ (30 + p))).testBit i = (((c.testBit i || decide (30 + p = i)) && !(tk && decide (t = i))) || (tk && decide (10 + t = i))) := by
  cases tk with
  | true => rw [cn_t, tb_or, tb_cl hi, tb_or, Bool.true_and, Bool.true_and]
  | false => rw [cn_f, tb_or, Bool.false_and, Bool.false_and, Bool.not_false, Bool.and_true, Bool.or_false]
theorem py_lt {c p t : Nat} {tk : Bool} (hc : c < 2 ^ 61) (hp : p < 10) (ht : t < 10) : (bif tk then ((c ||| 2 ^ (30 + p)) &&& (9223372036854775807 ^^^ 2 ^ t)) ||| 2 ^ (10 + t) else (c ||| 2 ^ (30 + p))) < 2 ^ 61 := by
  cases tk with
  | true => rw [cn_t]; exact or61 (and61 (or61 hc (by omega))) (by omega)
  | false => rw [cn_f]; exact or61 hc (by omega)
theorem ck_pay {t : Nat} (h : GS w s) (hk : oP w (sPl s) 0 = 1) (hbit : (fd s 34 10).testBit (fd s 5 4) = false) (hst : sG s t = 2) (hp : fd s 5 4 < 10) (hpw : (fd s 5 4 : Int) < w 0) (ht : t < 10) (c1 : w 1 ≤ 10) (hg : oP w (sPl s) 6 < w 1) (hgo : 0 ≤ oP w (sPl s) 6 → oT w (oP w (sPl s) 6) 2 = 1) :
    cpk w (sPd w s t) = pyK (cpk w s) (fd s 5 4) t (decide (oP w (sPl s) 5 = 1)) (if 0 ≤ oP w (sPl s) 6 then some ((oP w (sPl s) 6).toNat, decide (cnt (sCar w (sPd0 w s t)).testBit 10 < 4)) else none) := by
  obtain ⟨room, hroom, q0, q1, q2, q3, q4, q5⟩ := pyV (w := w) (s := s) (t := t) hp ht (by omega)
  have hgift : 0 ≤ oP w (sPl s) 6 → sG s (oP w (sPl s) 6).toNat = 1 := fun hg0 => h.2.2.2.2.2.2.1 (fd s 5 4) hpw hk hg0 hbit
  unfold pyK
  by_cases hg0 : 0 ≤ oP w (sPl s) 6
  · rw [if_pos hg0]
    obtain ⟨g, eg⟩ : ∃ g : Nat, oP w (sPl s) 6 = (g : Int) := ⟨(oP w (sPl s) 6).toNat, by omega⟩
    have hgs := hgift hg0
    have hgo' := hgo hg0
    rw [eg] at hgs hgo' q5
    rw [Int.toNat_natCast] at hgs
    have hg10 : g < 10 := by omega
    have hgt : g ≠ t := fun e => by rw [e, hst] at hgs; omega
    have q5' : ∀ i, i < 10 → sG (sPd w s t) i = if i = g then room else if i = t ∧ oP w (sPl s) 5 = 1 then 3 else sG s i := fun i hi => by
      rw [q5 i hi]
      by_cases e : i = g
      · rw [if_pos e, if_pos (by omega)]
      · rw [if_neg e, if_neg (by omega)]
    rw [eg, Int.toNat_natCast]
    show cpk w (sPd w s t) = (bif decide (oP w (sPl s) 5 = 1) then ((cpk w s ||| 2 ^ (30 + fd s 5 4)) &&& (9223372036854775807 ^^^ 2 ^ t)) ||| 2 ^ (10 + t) else (cpk w s ||| 2 ^ (30 + fd s 5 4))) ||| 2 ^ (bif decide (cnt (sCar w (sPd0 w s t)).testBit 10 < 4) then g else 20 + g)
    obtain ⟨rb, hrb⟩ : ∃ b, b = decide (cnt (sCar w (sPd0 w s t)).testBit 10 < 4) := ⟨_, rfl⟩
    have hroom' : room = bif rb then 2 else 0 := by
      rw [hroom, hrb]
      by_cases hc : cnt (sCar w (sPd0 w s t)).testBit 10 < 4
      · rw [if_pos hc, decide_eq_true hc]; rfl
      · rw [if_neg hc, decide_eq_false hc]; rfl
    rw [← hrb]
    generalize htk : decide (oP w (sPl s) 5 = 1) = tk
    have htk' : (oP w (sPl s) 5 = 1) ↔ tk = true := by rw [← htk, decide_eq_true_iff]
    have hgl : (bif rb then g else 20 + g) < 61 := by cases rb <;> simp <;> omega
    have S : ∀ j, j < 10 → sG (sPd w s t) j = if j = g then (bif rb then 2 else 0) else if j = t ∧ tk = true then 3 else sG s j := fun j hj => by
      rw [q5' j hj, hroom']
      by_cases e : j = g
      · rw [if_pos e, if_pos e]
      · rw [if_neg e, if_neg e]
        by_cases e2 : j = t ∧ oP w (sPl s) 5 = 1
        · rw [if_pos e2, if_pos ⟨e2.1, htk'.mp e2.2⟩]
        · rw [if_neg e2, if_neg (fun g => e2 ⟨g.1, htk'.mpr g.2⟩)]
    refine ck_ext cpk_lt (or61 (py_lt cpk_lt hp ht) hgl) (fun j hj => ?_) (fun j hj => ?_) (fun j hj => ?_) (fun j hj => ?_) (fun j hj => ?_) (fun j hj => ?_) (fun j hj => ?_) (fun j hj => ?_)
    · rw [tb_or, py_bit (by omega), ck (by omega), ck (by omega), cpB_0 hj, cpB_0 hj, S j hj, decide_eq_false (by omega : ¬ 30 + fd s 5 4 = j), decide_eq_false (by omega : ¬ 10 + t = j), Bool.or_false, Bool.and_false, Bool.or_false]
      by_cases e : j = g
      · subst e
        rw [if_pos rfl, hgs]
        cases rb <;> simp
      · rw [if_neg e, decide_eq_false (show ¬ (bif rb then g else 20 + g) = j by cases rb <;> simp <;> omega), Bool.or_false]
        by_cases e2 : j = t
        · subst e2
          rw [hst]
          cases tk <;> simp
        · rw [if_neg (fun g => e2 g.1), decide_eq_false (by omega : ¬ t = j), Bool.and_false, Bool.not_false, Bool.and_true]
    · rw [tb_or, py_bit (by omega), ck (by omega), ck (by omega), cpB_1 hj, cpB_1 hj, S j hj, decide_eq_false (by omega : ¬ 30 + fd s 5 4 = 10 + j), decide_eq_false (by omega : ¬ t = 10 + j), Bool.or_false, Bool.and_false, Bool.not_false, Bool.and_true, decide_eq_false (show ¬ (bif rb then g else 20 + g) = 10 + j by cases rb <;> simp <;> omega), Bool.or_false]
      by_cases e : j = g
      · subst e
        rw [if_pos rfl, hgs, decide_eq_false (by omega : ¬ 10 + t = 10 + j)]
        cases rb <;> simp
      · rw [if_neg e]
        by_cases e2 : j = t
        · subst e2
          rw [hst]
          cases tk <;> simp
        · rw [if_neg (fun g => e2 g.1), decide_eq_false (by omega : ¬ 10 + t = 10 + j), Bool.and_false, Bool.or_false]
    · rw [tb_or, py_bit (by omega), ck (by omega), ck (by omega), cpB_2 hj, cpB_2 hj, S j hj, decide_eq_false (by omega : ¬ 30 + fd s 5 4 = 20 + j), decide_eq_false (by omega : ¬ t = 20 + j), decide_eq_false (by omega : ¬ 10 + t = 20 + j), Bool.or_false, Bool.and_false, Bool.not_false, Bool.and_true, Bool.or_false]
      by_cases e : j = g
      · subst e
        rw [if_pos rfl, hgs, decide_eq_true (show (j : Int) < w 1 by omega), hgo']
        cases rb with
        | true => simp
        | false => simp
      · rw [if_neg e, decide_eq_false (show ¬ (bif rb then g else 20 + g) = 20 + j by cases rb <;> simp <;> omega), Bool.or_false]
        by_cases e2 : j = t
        · subst e2
          rw [hst]
          cases tk <;> simp
        · rw [if_neg (fun g => e2 g.1)]
    · rw [tb_or, py_bit (by omega), ck (by omega), ck (by omega), cpB_3 hj, cpB_3 hj, q4, decide_eq_false (by omega : ¬ t = 30 + j), decide_eq_false (by omega : ¬ 10 + t = 30 + j), Bool.and_false, Bool.not_false, Bool.and_true, Bool.or_false, decide_eq_false (show ¬ (bif rb then g else 20 + g) = 30 + j by cases rb <;> simp <;> omega), Bool.or_false]
      by_cases e : j = fd s 5 4
      · rw [if_pos e, decide_eq_true (by omega : 30 + fd s 5 4 = 30 + j), Bool.or_true]
      · rw [if_neg e, decide_eq_false (by omega : ¬ 30 + fd s 5 4 = 30 + j), Bool.or_false]
    · rw [tb_or, py_bit (by omega), ck (by omega), ck (by omega), cpB_4 hj, cpB_4 hj, q3, decide_eq_false (by omega : ¬ 30 + fd s 5 4 = 40 + j), decide_eq_false (by omega : ¬ t = 40 + j), decide_eq_false (by omega : ¬ 10 + t = 40 + j), decide_eq_false (show ¬ (bif rb then g else 20 + g) = 40 + j by cases rb <;> simp <;> omega)]; simp
    · rw [tb_or, py_bit (by omega), ck (by omega), ck (by omega), cpB_5 hj, cpB_5 hj, q1, decide_eq_false (by omega : ¬ 30 + fd s 5 4 = 47 + j), decide_eq_false (by omega : ¬ t = 47 + j), decide_eq_false (by omega : ¬ 10 + t = 47 + j), decide_eq_false (show ¬ (bif rb then g else 20 + g) = 47 + j by cases rb <;> simp <;> omega)]; simp
    · rw [tb_or, py_bit (by omega), ck (by omega), ck (by omega), cpB_6 hj, cpB_6 hj, q2, decide_eq_false (by omega : ¬ 30 + fd s 5 4 = 51 + j), decide_eq_false (by omega : ¬ t = 51 + j), decide_eq_false (by omega : ¬ 10 + t = 51 + j), decide_eq_false (show ¬ (bif rb then g else 20 + g) = 51 + j by cases rb <;> simp <;> omega)]; simp
    · rw [tb_or, py_bit (by omega), ck (by omega), ck (by omega), cpB_7, cpB_7, q0, decide_eq_false (by omega : ¬ 30 + fd s 5 4 = 56 + j), decide_eq_false (by omega : ¬ t = 56 + j), decide_eq_false (by omega : ¬ 10 + t = 56 + j), decide_eq_false (show ¬ (bif rb then g else 20 + g) = 56 + j by cases rb <;> simp <;> omega)]; simp
  · rw [if_neg hg0]
    show cpk w (sPd w s t) = (bif decide (oP w (sPl s) 5 = 1) then ((cpk w s ||| 2 ^ (30 + fd s 5 4)) &&& (9223372036854775807 ^^^ 2 ^ t)) ||| 2 ^ (10 + t) else (cpk w s ||| 2 ^ (30 + fd s 5 4)))
    generalize htk : decide (oP w (sPl s) 5 = 1) = tk
    have htk' : (oP w (sPl s) 5 = 1) ↔ tk = true := by rw [← htk, decide_eq_true_iff]
    have S : ∀ j, j < 10 → sG (sPd w s t) j = if j = t ∧ tk = true then 3 else sG s j := fun j hj => by
      rw [q5 j hj, if_neg (by omega)]
      by_cases e2 : j = t ∧ oP w (sPl s) 5 = 1
      · rw [if_pos e2, if_pos ⟨e2.1, htk'.mp e2.2⟩]
      · rw [if_neg e2, if_neg (fun g => e2 ⟨g.1, htk'.mpr g.2⟩)]
    refine ck_ext cpk_lt (py_lt cpk_lt hp ht) (fun j hj => ?_) (fun j hj => ?_) (fun j hj => ?_) (fun j hj => ?_) (fun j hj => ?_) (fun j hj => ?_) (fun j hj => ?_) (fun j hj => ?_)
    · rw [py_bit (by omega), ck (by omega), ck (by omega), cpB_0 hj, cpB_0 hj, S j hj, decide_eq_false (by omega : ¬ 30 + fd s 5 4 = j), decide_eq_false (by omega : ¬ 10 + t = j), Bool.or_false, Bool.and_false, Bool.or_false]
      by_cases e2 : j = t
      · subst e2
        rw [hst]
        cases tk <;> simp
      · rw [if_neg (fun g => e2 g.1), decide_eq_false (by omega : ¬ t = j), Bool.and_false, Bool.not_false, Bool.and_true]
    · rw [py_bit (by omega), ck (by omega), ck (by omega), cpB_1 hj, cpB_1 hj, S j hj, decide_eq_false (by omega : ¬ 30 + fd s 5 4 = 10 + j), decide_eq_false (by omega : ¬ t = 10 + j), Bool.or_false, Bool.and_false, Bool.not_false, Bool.and_true]
      by_cases e2 : j = t
      · subst e2
        rw [hst]
        cases tk <;> simp
      · rw [if_neg (fun g => e2 g.1), decide_eq_false (by omega : ¬ 10 + t = 10 + j), Bool.and_false, Bool.or_false]
    · rw [py_bit (by omega), ck (by omega), ck (by omega), cpB_2 hj, cpB_2 hj, S j hj, decide_eq_false (by omega : ¬ 30 + fd s 5 4 = 20 + j), decide_eq_false (by omega : ¬ t = 20 + j), decide_eq_false (by omega : ¬ 10 + t = 20 + j), Bool.or_false, Bool.and_false, Bool.not_false, Bool.and_true, Bool.or_false]
      by_cases e2 : j = t
      · subst e2
        rw [hst]
        cases tk <;> simp
      · rw [if_neg (fun g => e2 g.1)]
    · rw [py_bit (by omega), ck (by omega), ck (by omega), cpB_3 hj, cpB_3 hj, q4, decide_eq_false (by omega : ¬ t = 30 + j), decide_eq_false (by omega : ¬ 10 + t = 30 + j), Bool.and_false, Bool.not_false, Bool.and_true, Bool.or_false]
      by_cases e : j = fd s 5 4
      · rw [if_pos e, decide_eq_true (by omega : 30 + fd s 5 4 = 30 + j), Bool.or_true]
      · rw [if_neg e, decide_eq_false (by omega : ¬ 30 + fd s 5 4 = 30 + j), Bool.or_false]
    · rw [py_bit (by omega), ck (by omega), ck (by omega), cpB_4 hj, cpB_4 hj, q3, decide_eq_false (by omega : ¬ 30 + fd s 5 4 = 40 + j), decide_eq_false (by omega : ¬ t = 40 + j), decide_eq_false (by omega : ¬ 10 + t = 40 + j)]; simp
    · rw [py_bit (by omega), ck (by omega), ck (by omega), cpB_5 hj, cpB_5 hj, q1, decide_eq_false (by omega : ¬ 30 + fd s 5 4 = 47 + j), decide_eq_false (by omega : ¬ t = 47 + j), decide_eq_false (by omega : ¬ 10 + t = 47 + j)]; simp
    · rw [py_bit (by omega), ck (by omega), ck (by omega), cpB_6 hj, cpB_6 hj, q2, decide_eq_false (by omega : ¬ 30 + fd s 5 4 = 51 + j), decide_eq_false (by omega : ¬ t = 51 + j), decide_eq_false (by omega : ¬ 10 + t = 51 + j)]; simp
    · rw [py_bit (by omega), ck (by omega), ck (by omega), cpB_7, cpB_7, q0, decide_eq_false (by omega : ¬ 30 + fd s 5 4 = 56 + j), decide_eq_false (by omega : ¬ t = 56 + j), decide_eq_false (by omega : ¬ 10 + t = 56 + j)]; simp
end Ck2
