/-! ===== TALE as a call: the reference's start and end ===== -/
theorem mU_self {N : MM} {a j : Nat} {x : Int} (h : N a j = x) : mU N a j x = N := by
  funext c i
  rw [mU_ap]
  by_cases hc : c = a
  · subst hc
    rw [if_pos rfl]
    by_cases hi : i = j
    · subst hi
      rw [if_pos rfl, h]
    · rw [if_neg hi]
  · rw [if_neg hc]
section NG
variable {n : Nat} {T : Nat → Int}
theorem isAt_g {N : MM} {p : Nat} {k : Int → MM → OR} (h : TN T n N) (h9 : N 165 9 = (p : Int)) (hp : p ≤ n) : bI (mo_isAt 32 32 N) k = k (b2 (decide (p < n) && decide (T p = 32))) N := by
  have hn := h.2.1
  unfold mo_isAt
  rw [h9, h.1, bq_ge (by omega) (by omega)]
  by_cases g : (n : Int) ≤ p
  · rw [if_pos g, decide_eq_false (by omega), Bool.false_and, bI_I]; rfl
  · have hb := h.2.2.2 p (by omega)
    have hs := sg_I hb
    have h32 := sg_eq (x := T p) (c := 32) hb (by decide)
    rw [if_neg g, decide_eq_true (show p < n by omega), Bool.true_and, bq_in (by omega) (by omega), Int.toNat_natCast, h.2.2.1 p (by omega), bq_lt hs (by decide), bq_in (by omega) (by omega), bq_gt hs (by decide)]
    by_cases g1 : sgB (T p) < 32
    · rw [if_pos g1, bI_I, decide_eq_false (fun x => by have := h32.mpr x; omega)]; rfl
    · rw [if_neg g1]
      by_cases g2 : 32 < sgB (T p)
      · rw [if_pos g2, bI_I, decide_eq_false (fun x => by have := h32.mpr x; omega)]; rfl
      · rw [if_neg g2, bI_I, decide_eq_true (h32.mp (by omega))]; rfl
theorem rb_g {K : MM → OR} : ∀ d F p N, TN T n N → N 165 9 = ((p : Nat) : Int) → p + d = n → d < F → mo_blanks_L0 K F N = K (mU N 165 9 ((skB T n p : Nat) : Int))
  | 0, F, p, N, h, h9, hp, hF => by
    obtain ⟨F, rfl⟩ : ∃ n, F = n + 1 := ⟨F - 1, by omega⟩
    obtain rfl : p = n := hp
    rw [mo_blanks_L0, isAt_g h h9 (Nat.le_refl p), decide_eq_false (by omega), Bool.false_and, bz_eq0, cn_f, skB_end, mU_self h9]
  | d + 1, F, p, N, h, h9, hp, hF => by
    obtain ⟨F, rfl⟩ : ∃ n, F = n + 1 := ⟨F - 1, by omega⟩
    rw [mo_blanks_L0, isAt_g h h9 (by omega), decide_eq_true (show p < n by omega), Bool.true_and, bz_eq0]
    by_cases h32 : T p = 32
    · have e : skB T n p = skB T n (p + 1) := by
        unfold skB
        rw [show n - p = d + 1 by omega, show n - (p + 1) = d by omega, runF_t (decide_eq_true h32)]
      rw [decide_eq_true h32, cn_t, sM_eq, h9, show (p : Int) + 1 = ((p + 1 : Nat) : Int) by omega, rb_g d F (p + 1) _ (TN_v h (by decide)) (by rw [mU_eq, up_eq]) (by omega) (by omega), e, mU_twice]
    · rw [decide_eq_false h32, cn_f, skB_id (by omega) h32, mU_self h9]
theorem nT_mk {N : MM} {s : Nat} : mU (mU N 165 9 (s : Int)) 165 11 (s : Int) = nT N s s := by
  funext a j
  rw [mU_ap, mU_ap]
  by_cases ha : a = 165
  · subst ha
    rw [if_pos rfl, if_pos rfl]
    show _ = (if j = 9 then (s : Int) else if j = 11 then (s : Int) else N 165 j)
    by_cases h9 : j = 9
    · subst h9; rfl
    · rw [if_neg h9, if_neg h9]
  · rw [if_neg ha, if_neg ha, nT_ne ha]
theorem blanks_g {N : MM} {k : MM → OR} (h : TN T n N) (h9 : N 165 9 = 0) : bV (mo_blanks N) k = k (nT N (skB T n 0) (skB T n 0)) := by
  have h9' : N 165 9 = ((0 : Nat) : Int) := h9
  unfold mo_blanks
  rw [isAt_g h h9' (Nat.zero_le n), bz_eq0]
  by_cases h1 : 0 < n
  · rw [decide_eq_true h1, Bool.true_and]
    by_cases h32 : T 0 = 32
    · have e : skB T n 0 = skB T n 1 := by
        unfold skB
        rw [show n - 0 = (n - 1) + 1 by omega, runF_t (decide_eq_true h32)]
      rw [decide_eq_true h32, cn_t, sM_eq, h9, rb_g (n - 1) FU 1 _ (TN_v h (by decide)) (by rw [mU_eq, up_eq]; rfl) (by omega) (FU_gt (by have := h.2.1; omega)), sM_eq, bV_V, mU_twice, ← e, show (mU N 165 9 ((skB T n 0 : Nat) : Int)) 165 9 = ((skB T n 0 : Nat) : Int) by rw [mU_eq, up_eq], nT_mk]
    · rw [decide_eq_false h32, cn_f, sM_eq, bV_V, skB_id h1 h32, ← nT_mk, mU_self h9', h9]; rfl
  · obtain rfl : n = 0 := by omega
    rw [decide_eq_false h1, Bool.false_and, cn_f, sM_eq, bV_V, skB_end, ← nT_mk, mU_self h9', h9]; rfl
def usN (M : MM) (n : Nat) : MM := mU (usM M n) 165 15 0
theorem readAll_b {M : MM} {v : Int} (h : TN T n (usN M n)) (h8 : M 165 8 = (n : Int)) : mo_readAll v M = readR v (nT (usN M n) 0 0) := by
  have e8 : (mU M 165 0 0) 165 8 = (n : Int) := h8
  have hu : mU (mU (mU (mU M 165 0 0) 165 10 (n : Int)) 165 8 0) 165 9 0 = usM M n := rfl
  unfold mo_readAll mo_uses readR
  rw [sM_eq, sM_eq, sM_eq, sM_eq, bV_V, e8, hu, sM_eq, show mU (usM M n) 165 15 0 = usN M n from rfl, blanks_g h rfl, blanks_b h (Nat.zero_le n)]
end NG
theorem J90_v {N : MM} : mo_tale_J90 N = some (rI 0, flM N 166 0 (0 + 1115) (N 168)) := by
  unfold mo_tale_J90
  refine fl_run0 (L := fun F i M => mo_tale_L92 (fun M_18 => some (rI 0, M_18)) F i M) (K := fun M => some (rI 0, M)) (a := 166) (o := 0) (N := 1115) (F := FU) (f := N 168) (FU_gt (by decide)) (fun n i hi => ?_) (fun n => ?_)
  · rw [mo_tale_L92, bq_ge (by omega) (by decide), if_neg (by omega), bq_in (by omega) (by omega), bq_in (by omega) (by omega), sM_eq, Int.toNat_natCast, Nat.zero_add, flM_ne (by decide)]
  · rw [mo_tale_L92, bq_ge (by decide) (by decide), if_pos (by decide)]
def keepW (M : MM) : MM := flM M 168 0 (0 + 1115) (M 166)
theorem taleL2_v {M : MM} {K : MM → OR} : mo_tale_L2 K FU 0 M = K (keepW M) := by
  refine fl_run0 (L := fun F i M => mo_tale_L2 K F i M) (K := K) (a := 168) (o := 0) (N := 1115) (F := FU) (f := M 166) (FU_gt (by decide)) (fun n i hi => ?_) (fun n => ?_)
  · rw [mo_tale_L2, bq_ge (by omega) (by decide), if_neg (by omega), bq_in (by omega) (by omega), bq_in (by omega) (by omega), sM_eq, Int.toNat_natCast, Nat.zero_add, flM_ne (by decide)]
  · rw [mo_tale_L2, bq_ge (by decide) (by decide), if_pos (by decide)]
theorem throws_v {v c : Int} {M : MM} {k : Int → MM → OR} (h : v = 0 ∨ v = 1) : bI (mo_throwsIf v c M) k = k v (if v = 0 then M else mU M 165 0 c) := by
  unfold mo_throwsIf
  rcases h with rfl | rfl
  · rw [bq_eq (by decide) (by decide), if_pos rfl, zo_0, bI_I, if_pos rfl]
  · rw [bq_eq (by decide) (by decide), if_neg (by decide), sM_eq, show zo 1 = true from rfl, cn_t, bI_I, if_neg (by decide)]
