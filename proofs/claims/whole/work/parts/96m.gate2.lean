/-! ===== GATE, the class: branch and bound ===== -/
def inL (l : List Nat) (i : Nat) : Bool := decide (i ∈ l)
def lsG (l : List Nat) (j : Nat) : Int := ((l.getD j 0 : Nat) : Int)
theorem lsG_a {l : List Nat} {b j : Nat} (h : j < l.length) : lsG (l ++ [b]) j = lsG l j := by
  unfold lsG
  rw [List.getD_eq_getElem?_getD, List.getD_eq_getElem?_getD, List.getElem?_append_left h]
theorem lsG_e {l : List Nat} {b : Nat} : lsG (l ++ [b]) l.length = (b : Int) := by
  unfold lsG
  rw [List.getD_eq_getElem?_getD, List.getElem?_append_right (Nat.le_refl _), Nat.sub_self]; rfl
def GF (M M' : MM) : Prop := ∀ p, p ≠ 161 → p ≠ 162 → p ≠ 163 → M' p = M p
def gCR (N : Nat) (s : Int × List Nat) (M : MM) : Prop := M 161 5 = s.1 ∧ (s.1 = 1000000000 ∨ (0 ≤ s.1 ∧ s.1 ≤ 300000) ∧ s.2.length = N ∧ ∀ j, j < N → M 163 j = lsG s.2 j)
def gCl (hm du : Nat → Int) (l : List Nat) (M : MM) : Prop := ∀ b : Nat, b ∈ l → M 25 b + M 15 b = hm b ∧ M 16 b = du b
theorem gCl_fr {hm du : Nat → Int} {l : List Nat} {M M' : MM} (h : GF M M') (H : gCl hm du l M) : gCl hm du l M' := fun b hb => by
  rw [h 25 (by decide) (by decide) (by decide), h 15 (by decide) (by decide) (by decide), h 16 (by decide) (by decide) (by decide)]
  exact H b hb
theorem mx_v {a b : Int} (ha : I32 a) (hb : I32 b) : imax a b = mx a b := by
  rw [imax_v ha hb]
  unfold mx
  by_cases h : a < b
  · rw [if_pos h, if_pos (by omega)]
  · by_cases h2 : a = b
    · rw [if_neg h, if_pos (by omega)]; exact h2
    · rw [if_neg h, if_neg (by omega)]
section GateC
variable {hm du : Nat → Int} {N : Nat}
theorem cls_loop {G : List Nat → List Nat → Int × List Nat → Int × List Nat} {R : Int → Int → Int → Int → MM → OR} {K : MM → OR} {pre l : List Nat} {z : Int} (hz : 0 ≤ z ∧ z ≤ 200000) (hh : ∀ b, 0 ≤ hm b ∧ hm b ≤ z) (hd : ∀ b, 0 ≤ du b ∧ du b ≤ 999) (hp : pre.length < 7) (hs : l.Pairwise (· < ·)) (h7 : ∀ b, b ∈ l → b < 7)
    (hR : ∀ (b : Nat) (A B : List Nat) (s : Int × List Nat) (M : MM), l = A ++ b :: B → gCR N s M → gCl hm du (A ++ B) M → (∀ j, j < (pre ++ [b]).length → M 162 j = lsG (pre ++ [b]) j) → ∃ M', R (((pre ++ [b]).length : Nat) : Int) ((bset 7 (inL (A ++ B)) : Nat) : Int) (gHT hm du (pre ++ [b])).1 (gHT hm du (pre ++ [b])).2 M = some (rV, M') ∧ GF M M' ∧ (∀ j, j < (pre ++ [b]).length → M' 162 j = M 162 j) ∧ gCR N (G (pre ++ [b]) (A ++ B) s) M') :
    ∀ (k F i : Nat) (A B : List Nat) (s : Int × List Nat) (M : MM), k + i = 7 → k < F → l = A ++ B → (∀ a, a ∈ A → a < i) → (∀ b, b ∈ B → i ≤ b) → gCR N s M → gCl hm du l M → (∀ j, j < pre.length → M 162 j = lsG pre j) →
      ∃ M', ridd_orderOn_L41 R ((pre.length : Nat) : Int) ((bset 7 (inL l) : Nat) : Int) (gHT hm du pre).1 (gHT hm du pre).2 K F (i : Int) M = K M' ∧ GF M M' ∧ (∀ j, j < pre.length → M' 162 j = M 162 j) ∧ gCR N (gR G pre A B s) M'
  | 0, F, i, A, B, s, M, hk, hF, hl, hA, hB, hC, hc, h2 => by
    obtain ⟨f, rfl⟩ : ∃ n, F = n + 1 := ⟨F - 1, by omega⟩
    obtain rfl : i = 7 := by omega
    cases B with
    | cons b B =>
      have g1 := hB b (List.mem_cons_self ..)
      have g2 := h7 b (by rw [hl]; exact List.mem_append_right _ (List.mem_cons_self ..))
      omega
    | nil =>
      refine ⟨M, ?_, fun _ _ _ _ => rfl, fun _ _ => rfl, hC⟩
      rw [ridd_orderOn_L41, bq_ge (by decide) (by decide), if_pos (by decide)]
  | k + 1, F, i, A, B, s, M, hk, hF, hl, hA, hB, hC, hc, h2 => by
    obtain ⟨f, rfl⟩ : ∃ n, F = n + 1 := ⟨F - 1, by omega⟩
    have hi : i < 7 := by omega
    by_cases hm1 : i ∈ l
    · cases B with
      | nil =>
        rw [hl, List.append_nil] at hm1
        exact absurd (hA i hm1) (by omega)
      | cons b B =>
        have hb0 := hB b (List.mem_cons_self ..)
        have hsB : (b :: B).Pairwise (· < ·) := by rw [hl] at hs; exact (List.pairwise_append.mp hs).2.1
        have hbB : ∀ c, c ∈ B → b < c := fun c hc => (List.pairwise_cons.mp hsB).1 c hc
        obtain rfl : b = i := by
          rw [hl] at hm1
          rcases List.mem_append.mp hm1 with g | g
          · exact absurd (hA i g) (by omega)
          · rcases List.mem_cons.mp g with g | g
            · exact g.symm
            · have := hbB i g; omega
        have cb := hc b hm1
        have hJ := gHT_J hz.1 hh (fun b => (hd b).1) pre
        have e1 : imax (gHT hm du pre).1 (hm b) = mx (gHT hm du pre).1 (hm b) := mx_v (by have := hh b; omega) (by have := hh b; omega)
        have b1 := mx_l (gHT hm du pre).1 (hm b)
        have b2' : mx (gHT hm du pre).1 (hm b) ≤ 200007 := mx_le (by omega) (by have := hh b; omega)
        have e2 : imax (gHT hm du pre).2 (mx (gHT hm du pre).1 (hm b) - du b) = mx (gHT hm du pre).2 (mx (gHT hm du pre).1 (hm b) - du b) := mx_v (by omega) (by have := hd b; omega)
        have eset : iAnd ((bset 7 (inL l) : Nat) : Int) (iXor (iShl 1 (b : Int)) (-1)) = ((bset 7 (inL (A ++ B)) : Nat) : Int) := by
          rw [nu_one (by omega), andn_s (Nat.lt_of_lt_of_le (Nat.pow_lt_pow_right (by decide) (show b < 31 by omega)) (by decide)) (by decide)]
          congr 1
          apply bset_cg
          intro j hj
          rw [Nat.testBit_two_pow]
          unfold inL
          rw [hl]
          by_cases hjb : b = j
          · subst hjb
            have g1 : b ∉ A ++ B := fun g => by
              rcases List.mem_append.mp g with g | g
              · have := hA b g; omega
              · have := hbB b g; omega
            rw [decide_eq_false g1, decide_eq_true (show b = b from rfl)]; simp
          · rw [decide_eq_false hjb, Bool.not_false, Bool.and_true]
            apply decide_eq_decide.mpr
            rw [List.mem_append, List.mem_append, List.mem_cons]
            constructor
            · rintro (g | g | g)
              · exact Or.inl g
              · exact absurd g.symm hjb
              · exact Or.inr g
            · rintro (g | g)
              · exact Or.inl g
              · exact Or.inr (Or.inr g)
        obtain ⟨M1, r1, r2, r3, r4⟩ := hR b A B s (mU M 162 pre.length (b : Int)) hl hC (fun c hc' => hc c (by
          rw [hl]
          rcases List.mem_append.mp hc' with g | g
          · exact List.mem_append_left _ g
          · exact List.mem_append_right _ (List.mem_cons_of_mem _ g))) (fun j hj => by
          rw [List.length_append, List.length_singleton] at hj
          rw [mU_ap, if_pos rfl]
          by_cases hj2 : j = pre.length
          · rw [if_pos hj2, hj2, lsG_e]
          · rw [if_neg hj2, h2 j (by omega), lsG_a (by omega)])
        obtain ⟨M2, q1, q2, q3, q4⟩ := cls_loop (K := K) hz hh hd hp hs h7 hR k f (b + 1) (A ++ [b]) B (G (pre ++ [b]) (A ++ B) s) M1 (by omega) (by omega) (by rw [hl, List.append_assoc]; rfl) (fun a ha => by
          rcases List.mem_append.mp ha with g | g
          · have := hA a g; omega
          · have := List.mem_singleton.mp g; omega) (fun c hc => hbB c hc) r4 (gCl_fr (M := mU M 162 pre.length (b : Int)) r2 hc) (fun j hj => by
          rw [r3 j (by rw [List.length_append]; omega), mU_ap, if_pos rfl, if_neg (by omega)]; exact h2 j hj)
        refine ⟨M2, ?_, fun p p1 p2 p3 => by rw [q2 p p1 p2 p3, r2 p p1 p2 p3, mU_ne p2], fun j hj => by rw [q3 j hj, r3 j (by rw [List.length_append]; omega), mU_ap, if_pos rfl, if_neg (by omega)], q4⟩
        rw [ridd_orderOn_L41, bq_ge (by omega) (by decide), if_neg (by omega), gh_bit_s (by decide) (by omega) (by omega), Int.toNat_natCast, show inL l b = true from decide_eq_true hm1, bz_ne1, cn_t, bq_in (by omega) (by omega), bq_in (by omega) (by omega), bq_in (by omega) (by omega), sM_eq, bq_in (by omega) (by omega), Int.toNat_natCast, mU_ne (show 16 ≠ 162 by decide), cb.1, cb.2, e1, e2, eset]
        rw [gHT_a, List.length_append, List.length_singleton] at r1
        have r1' : R ((pre.length + 1 : Nat) : Int) ((bset 7 (inL (A ++ B)) : Nat) : Int) (mx (gHT hm du pre).1 (hm b) + 1) (mx (gHT hm du pre).2 (mx (gHT hm du pre).1 (hm b) - du b)) (mU M 162 pre.length (b : Int)) = some (rV, M1) := r1
        rw [show ((pre.length : Nat) : Int) + 1 = ((pre.length + 1 : Nat) : Int) by omega, r1', bV_V]
        exact q1
    · have hB' : ∀ b, b ∈ B → i + 1 ≤ b := fun b hb => by
        have g1 := hB b hb
        have g2 : b ≠ i := fun g => hm1 (by rw [hl, ← g]; exact List.mem_append_right _ hb)
        omega
      obtain ⟨M2, q1, q2, q3, q4⟩ := cls_loop (K := K) hz hh hd hp hs h7 hR k f (i + 1) A B s M (by omega) (by omega) hl (fun a ha => by have := hA a ha; omega) hB' hC hc h2
      refine ⟨M2, ?_, q2, q3, q4⟩
      rw [ridd_orderOn_L41, bq_ge (by omega) (by decide), if_neg (by omega), gh_bit_s (by decide) (by omega) (by omega), Int.toNat_natCast, show inL l i = false from decide_eq_false hm1, bz_ne1, cn_f, show (i : Int) + 1 = ((i + 1 : Nat) : Int) by omega]
      exact q1
theorem bset_ne0 {l : List Nat} {b : Nat} (h : b ∈ l) (h7 : b < 7) : bset 7 (inL l) ≠ 0 := fun g => by
  have : (bset 7 (inL l)).testBit b = (decide (b < 7) && inL l b) := bset_bit ..
  rw [g, Nat.zero_testBit, decide_eq_true h7, show inL l b = true from decide_eq_true h] at this
  exact absurd this (by decide)
theorem bset_nil : bset 7 (inL []) = 0 := by
  rw [bset_cg (f := inL []) (f' := fun _ => false) 7 (fun i _ => rfl)]; rfl
theorem cls_order {z : Int} (hz : 0 ≤ z ∧ z ≤ 200000) (hh : ∀ b, 0 ≤ hm b ∧ hm b ≤ z) (hd : ∀ b, 0 ≤ du b ∧ du b ≤ 999) (hN : N ≤ 7) : ∀ (n F : Nat) (pre l : List Nat) (s : Int × List Nat) (M : MM), n < F → l.length = n → pre.length + n = N → l.Pairwise (· < ·) → (∀ b, b ∈ l → b < 7) → gCR N s M → gCl hm du l M → (∀ j, j < pre.length → M 162 j = lsG pre j) →
    ∃ M', ridd_orderOn_F F ((pre.length : Nat) : Int) ((bset 7 (inL l) : Nat) : Int) (gHT hm du pre).1 (gHT hm du pre).2 M = some (rV, M') ∧ GF M M' ∧ (∀ j, j < pre.length → M' 162 j = M 162 j) ∧ gCR N (gW hm du n pre l s) M'
  | 0, F, pre, l, s, M, hF, hl, hp, hs, h7, hC, hc, h2 => by
    obtain ⟨f, rfl⟩ : ∃ n, F = n + 1 := ⟨F - 1, by omega⟩
    obtain rfl : l = [] := List.length_eq_zero_iff.mp hl
    have hJ := gHT_J hz.1 hh (fun b => (hd b).1) pre
    rw [bset_nil]
    have hC' := hC
    obtain ⟨c1, c2⟩ := hC'
    have hI : I32 s.1 := by rcases c2 with g | g <;> omega
    rw [ridd_orderOn_F, ridd_orderOn, c1, bq_lt (by omega) hI]
    show ∃ M', _ ∧ _ ∧ _ ∧ gCR N (gfs hm du pre s) M'
    unfold gfs
    by_cases hlt : (gHT hm du pre).2 < s.1
    · rw [if_pos hlt, if_pos hlt, bq_eq (by decide) (by decide), if_pos (show ((0 : Nat) : Int) = 0 from rfl), sM_eq, copyRow_b]
      refine ⟨_, rfl, fun p p1 p2 p3 => ?_, fun j hj => ?_, ?_, Or.inr ⟨by show 0 ≤ (gHT hm du pre).2 ∧ (gHT hm du pre).2 ≤ 300000; omega, by show pre.length = N; omega, fun j hj => ?_⟩⟩
      · show mV _ 163 _ p = _
        unfold mV
        rw [if_neg p3, mU_ne p1]
      · rw [mV_ap, if_neg (by decide), mU_ne (by decide)]
      · rw [mV_ap, if_neg (by decide), mU_ap, if_pos rfl, if_pos rfl]
      · rw [mV_ap, if_pos rfl, if_pos (by omega), mU_ne (by decide)]
        exact h2 j (by omega)
    · rw [if_neg hlt, if_neg hlt]
      exact ⟨M, rfl, fun _ _ _ _ => rfl, fun _ _ => rfl, hC⟩
  | n + 1, F, pre, l, s, M, hF, hl, hp, hs, h7, hC, hc, h2 => by
    obtain ⟨f, rfl⟩ : ∃ n, F = n + 1 := ⟨F - 1, by omega⟩
    have hJ := gHT_J hz.1 hh (fun b => (hd b).1) pre
    have hC' := hC
    obtain ⟨c1, c2⟩ := hC'
    have hI : I32 s.1 := by rcases c2 with g | g <;> omega
    obtain ⟨b0, hb0⟩ : ∃ b, b ∈ l := by
      cases l with
      | nil => simp at hl
      | cons b l => exact ⟨b, List.mem_cons_self ..⟩
    have n0 := bset_ne0 hb0 (h7 b0 hb0)
    have n1 := bset_31 (f := inL l) (show 7 ≤ 31 by decide)
    rw [ridd_orderOn_F, ridd_orderOn, c1, bq_lt (by omega) hI]
    by_cases hlt : (gHT hm du pre).2 < s.1
    · rw [if_pos hlt, bq_eq (by omega) (by decide), if_neg (by omega), bq_lt (by omega) (by decide), if_pos (by omega)]
      obtain ⟨M', q1, q2, q3, q4⟩ := cls_loop (G := gW hm du n) (R := ridd_orderOn_F f) (K := fun M_14 => some (rV, M_14)) hz hh hd (by omega) hs h7 (fun b A B s M e g1 g2 g3 => by
        have hsl : (A ++ B).Pairwise (· < ·) := by
          rw [e] at hs
          have := List.pairwise_append.mp hs
          exact List.pairwise_append.mpr ⟨this.1, (List.pairwise_cons.mp this.2.1).2, fun a ha c hc => this.2.2 a ha c (List.mem_cons_of_mem _ hc)⟩
        have hlen : (A ++ B).length = n := by
          have := congrArg List.length e
          rw [List.length_append, List.length_cons] at this
          rw [List.length_append]; omega
        exact cls_order hz hh hd hN n f (pre ++ [b]) (A ++ B) s M (by omega) hlen (by rw [List.length_append, List.length_singleton]; omega) hsl (fun c hc => h7 c (by
          rw [e]
          rcases List.mem_append.mp hc with g | g
          · exact List.mem_append_left _ g
          · exact List.mem_append_right _ (List.mem_cons_of_mem _ g))) g1 g2 g3) 7 FU 0 [] l s M rfl (FU_gt (by decide)) rfl (fun a ha => absurd ha (by simp)) (fun b _ => Nat.zero_le b) hC hc h2
      exact ⟨M', q1, q2, q3, q4⟩
    · rw [if_neg hlt, gW_cut (n + 1) pre l (by omega)]
      exact ⟨M, rfl, fun _ _ _ _ => rfl, fun _ _ => rfl, hC⟩
end GateC
