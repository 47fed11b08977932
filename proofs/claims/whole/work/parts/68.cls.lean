/-! ===== HELPERS OF THE CLASS that only read ===== -/
def EXC (M : MM) : Prop := 0 ≤ M 999 0 ∧ M 999 0 < 100000
def xM (M : MM) : MM := mU M 999 0 (M 999 0 + 1)
def lyB (w : Nat → Int) (p : Int) (t : Nat) : Bool := decide ((t : Int) < w 1) && (decide (oT w t 2 = 0) && decide (oT w t 3 = p))
section ClsRows
variable {M : MM} {w : Nat → Int} {a n s : Nat} {k : Int → MM → OR} {kv : MM → OR} {v1 v2 z p t : Int}
theorem thx_v {c : Nat} (hx : EXC M) : thx c M = some (.inr c, xM M) := if_pos hx
theorem thx_bV {c : Nat} (hx : EXC M) (h : 13 ≤ c ∧ c < 18) : bV (thx c M) kv = some (.inr c, xM M) := by rw [thx_v hx]; exact tx_t h
theorem checkPlace_t (hC : WC n w) (e : M 3 0 = w 0) (h0 : 0 ≤ v1) (h1 : v1 < w 0) : bV (gh_checkPlace v1 M) kv = kv M := by
  obtain ⟨c0, -⟩ := hC
  unfold gh_checkPlace
  rw [bq_lt (by omega) (by decide), if_neg (by omega), bq_ge (by omega) (by omega), if_neg (by omega), bq_lt (by omega) (by decide), if_pos (by omega)]; rfl
theorem checkPlace_f (hC : WC n w) (e : M 3 0 = w 0) (hx : EXC M) (hv : I32 v1) (h : ¬ (0 ≤ v1 ∧ v1 < w 0)) : bV (gh_checkPlace v1 M) kv = some (.inr 15, xM M) := by
  obtain ⟨c0, -⟩ := hC
  unfold gh_checkPlace
  rw [bq_lt hv (by decide)]
  by_cases h0 : v1 < 0
  · rw [if_pos h0, thx_bV hx (by decide)]
  · rw [if_neg h0, bq_ge hv (by omega), if_pos (by omega), thx_bV hx (by decide)]
theorem checkThing_t (hC : WC n w) (e : M 3 1 = w 1) (h0 : 0 ≤ v1) (h1 : v1 < w 1) : bV (gh_checkThing v1 M) kv = kv M := by
  obtain ⟨c0, c1, -⟩ := hC
  unfold gh_checkThing
  rw [bq_lt (by omega) (by decide), if_neg (by omega), bq_ge (by omega) (by omega), if_neg (by omega), bq_lt (by omega) (by decide), if_pos (by omega)]; rfl
theorem checkThing_f (hC : WC n w) (e : M 3 1 = w 1) (hx : EXC M) (hv : I32 v1) (h : ¬ (0 ≤ v1 ∧ v1 < w 1)) : bV (gh_checkThing v1 M) kv = some (.inr 15, xM M) := by
  obtain ⟨c0, c1, -⟩ := hC
  unfold gh_checkThing
  rw [bq_lt hv (by decide)]
  by_cases h0 : v1 < 0
  · rw [if_pos h0, thx_bV hx (by decide)]
  · rw [if_neg h0, bq_ge hv (by omega), if_pos (by omega), thx_bV hx (by decide)]
theorem checkRoad_t (hC : WC n w) (e : M 3 2 = w 2) (h0 : 0 ≤ v1) (h1 : v1 < w 2) : bV (gh_checkRoad v1 M) kv = kv M := by
  obtain ⟨c0, c1, c2, -⟩ := hC
  unfold gh_checkRoad
  rw [bq_lt (by omega) (by decide), if_neg (by omega), bq_ge (by omega) (by omega), if_neg (by omega), bq_lt (by omega) (by decide), if_pos (by omega)]; rfl
theorem checkRoad_f (hC : WC n w) (e : M 3 2 = w 2) (hx : EXC M) (hv : I32 v1) (h : ¬ (0 ≤ v1 ∧ v1 < w 2)) : bV (gh_checkRoad v1 M) kv = some (.inr 15, xM M) := by
  obtain ⟨c0, c1, c2, -⟩ := hC
  unfold gh_checkRoad
  rw [bq_lt hv (by decide)]
  by_cases h0 : v1 < 0
  · rw [if_pos h0, thx_bV hx (by decide)]
  · rw [if_neg h0, bq_ge hv (by omega), if_pos (by omega), thx_bV hx (by decide)]
theorem checkBrother_t (hC : WC n w) (e : M 3 3 = w 3) (h0 : 0 ≤ v1) (h1 : v1 < w 3) : bV (gh_checkBrother v1 M) kv = kv M := by
  obtain ⟨c0, c1, c2, c3, -⟩ := hC
  unfold gh_checkBrother
  rw [bq_lt (by omega) (by decide), if_neg (by omega), bq_ge (by omega) (by omega), if_neg (by omega), bq_lt (by omega) (by decide), if_pos (by omega)]; rfl
theorem checkBrother_f (hC : WC n w) (e : M 3 3 = w 3) (hx : EXC M) (hv : I32 v1) (h : ¬ (0 ≤ v1 ∧ v1 < w 3)) : bV (gh_checkBrother v1 M) kv = some (.inr 15, xM M) := by
  obtain ⟨c0, c1, c2, c3, -⟩ := hC
  unfold gh_checkBrother
  rw [bq_lt hv (by decide)]
  by_cases h0 : v1 < 0
  · rw [if_pos h0, thx_bV hx (by decide)]
  · rw [if_neg h0, bq_ge hv (by omega), if_pos (by omega), thx_bV hx (by decide)]
theorem checkAny_t (hC : WC n w) (e : M 3 0 = w 0) (h : w 0 ≠ 0) : bV (gh_checkAnyPlace M) kv = kv M := by
  obtain ⟨c0, -⟩ := hC
  unfold gh_checkAnyPlace
  rw [bq_ne (by omega) (by decide), if_neg (by omega)]; rfl
theorem checkAny_f (e : M 3 0 = w 0) (hx : EXC M) (h : w 0 = 0) : bV (gh_checkAnyPlace M) kv = some (.inr 14, xM M) := by
  unfold gh_checkAnyPlace
  rw [e, h, bq_ne (by decide) (by decide), if_pos rfl, thx_bV hx (by decide)]
theorem gh_bit_b {s j : Nat} (hs : s < 2147483648) (hk : j < 32) : bI (gh_bit (s : Int) (j : Int) M) k = k (b2 (s.testBit j)) M := by rw [gh_bit_v hs hk]; rfl
theorem mo_has_b {s j : Nat} (hs : s < 2147483648) (hk : j < 32) : bI (mo_has (s : Int) (j : Int) M) k = k (b2 (s.testBit j)) M := by rw [mo_has_v hs hk]; rfl
/-- a bit of a set of at most ten, at a whole number -/
theorem gh_bit_s {f : Nat → Bool} {m : Nat} (hm : m ≤ 31) (h0 : 0 ≤ p) (h1 : p < m) : bI (gh_bit ((bset m f : Nat) : Int) p M) k = k (b2 (f p.toNat)) M := by
  obtain ⟨j, rfl⟩ : ∃ j : Nat, p = (j : Int) := ⟨p.toNat, by omega⟩
  rw [gh_bit_b (bset_31 hm) (by omega), bset_bit, decide_eq_true (show j < m by omega), Bool.true_and, Int.toNat_natCast]
theorem land_hasKeeper_v (hL : LandR a w M) (h0 : 0 ≤ p) (h1 : p < 10) : land_hasKeeper a p M = some (rI (b2 (kpB w p.toNat)), M) := by
  unfold land_hasKeeper
  rw [hL.2.1, gh_bit_s (by decide) h0 h1, bz_ne1, b_01]
theorem land_hasKeeper_b (hL : LandR a w M) (h0 : 0 ≤ p) (h1 : p < 10) : bI (land_hasKeeper a p M) k = k (b2 (kpB w p.toNat)) M := by rw [land_hasKeeper_v hL h0 h1]; rfl
theorem andn_s {s m : Nat} (hs : s < 2147483648) {f : Nat → Bool} (hm : m ≤ 31) : iAnd ((bset m f : Nat) : Int) (iXor (s : Int) (-1)) = ((bset m (fun i => f i && !s.testBit i) : Nat) : Int) := by
  obtain ⟨c, e, -, hb⟩ := nu_andn (a := bset m f) (b := s) (bset_31 hm) hs
  rw [e, bset_eq (x := c) (n := m) (f := fun i => f i && !s.testBit i) (fun i => by rw [hb, bset_bit]; cases decide (i < m) <;> simp)]
theorem land_isHeldBy_b (hL : LandR a w M) (h0 : 0 ≤ p) (h1 : p < 10) (hs : s < 2147483648) : bI (land_isHeldBy a p (s : Int) M) k = k (b2 (kpB w p.toNat && !s.testBit p.toNat)) M := by
  unfold land_isHeldBy
  rw [hL.2.1, andn_s hs (by decide), gh_bit_s (by decide) h0 h1, bz_ne1, b_01]; rfl
theorem kpB_eq (h0 : 0 ≤ p) (h1 : p < w 0) : kpB w p.toNat = decide (oP w p 0 = 1) := by
  unfold kpB
  rw [Int.toNat_of_nonneg h0, decide_eq_true h1, Bool.true_and]
theorem tkB_eq (h0 : 0 ≤ p) (h1 : p < w 0) : tkB w p.toNat = decide (oP w p 5 = 1) := by
  unfold tkB
  rw [Int.toNat_of_nonneg h0, decide_eq_true h1, Bool.true_and]
theorem paB_eq (h0 : 0 ≤ p) (h1 : p < w 0) : paB w p.toNat = decide (oP w p 7 = 1) := by
  unfold paB
  rw [Int.toNat_of_nonneg h0, decide_eq_true h1, Bool.true_and]
theorem stB_eq (h0 : 0 ≤ t) (h1 : t < w 1) : stB' w z t.toNat = decide (oT w t 2 = z) := by
  unfold stB'
  rw [Int.toNat_of_nonneg h0, decide_eq_true h1, Bool.true_and]
theorem frB_eq (h0 : 0 ≤ t) (h1 : t < w 3) : frB w t.toNat = decide (0 ≤ oB w t 5) := by
  unfold frB
  rw [Int.toNat_of_nonneg h0, decide_eq_true h1, Bool.true_and]
theorem land_eatsAt_b (hC : WC n w) (hP : WP w) (hL : LandR a w M) (h0 : 0 ≤ p) (h1 : p < w 0) (h2 : 0 ≤ t) (h3 : I32 t) : bI (land_eatsAt a p t M) k = k (b2 (eatB w p t)) M := by
  obtain ⟨c0, -⟩ := hC
  obtain ⟨p0, p1, p2, p3, p4, p5, p6, p7⟩ := hP p h0 h1
  unfold land_eatsAt eatB
  rw [land_hasKeeper_b hL h0 (by omega), kpB_eq h0 h1, bz_eq0]
  by_cases hk : oP w p 0 = 1
  · obtain ⟨l1, l2, l3, l4, l5⟩ := hL.2.2.2.1 p h0 h1 hk
    rw [decide_eq_true hk]
    simp only [cond_true]
    rw [bq_in h0 (by omega), bq_ne (by omega) (by decide)]
    by_cases h : M (a + 3) p.toNat = -1
    · rw [if_pos h, bI_I, decide_eq_false (show ¬ 0 ≤ oP w p 3 by omega)]; rfl
    · rw [if_neg h, bq_in h0 (by omega), tmod24 h3 h2, bq_lt (by omega) (by omega), l3, decide_eq_true (show 0 ≤ oP w p 3 by omega)]
      by_cases h5 : t % 24 < oP w p 3
      · rw [if_pos h5, bI_I, decide_eq_false (by omega)]; rfl
      · rw [if_neg h5, bq_in h0 (by omega), bq_gt (by omega) (by omega), l4]
        by_cases h6 : oP w p 4 < t % 24
        · rw [if_pos h6, bI_I, decide_eq_false (by omega)]; rfl
        · rw [if_neg h6, bI_I, decide_eq_true (by omega)]; rfl
  · rw [decide_eq_false hk]
    simp only [cond_false]
    rw [bI_I, decide_eq_false (show ¬ 0 ≤ oP w p 3 by omega)]; rfl
theorem land_opens_v {s l : Int} (h0 : 0 ≤ l) (h1 : l < 17) : land_opens a s l M = some (rI (b2 (!cmpB .ne (iAnd s (M (a + 1) l.toNat)) (M (a + 2) l.toNat))), M) := by
  unfold land_opens
  rw [bq_in h0 h1, bq_in h0 h1, b_10]
theorem ne_fit {s m v : Int} (hv : I32 v) : (!cmpB .ne (iAnd s m) v) = fitB s m v := by
  unfold fitB
  rw [cq_ne (I32_and _ _) hv, Bool.eq_iff_iff]
  simp
theorem land_opens_p (hL : LandR a w M) (hC : WC n w) (hP : WP w) {s : Int} (h0 : 0 ≤ p) (h1 : p < w 0) (hk : oP w p 0 = 1) : bI (land_opens a s p M) k = k (b2 (fitB s (oP w p 1) (oP w p 2))) M := by
  obtain ⟨c0, -⟩ := hC
  obtain ⟨p0, p1, p2, p3⟩ := hP p h0 h1
  obtain ⟨l1, l2, l3, l4, l5⟩ := hL.2.2.2.1 p h0 h1 hk
  rw [land_opens_v h0 (by omega), l1, l2, ne_fit (by omega)]; rfl
theorem land_opens_r (hL : LandR a w M) (hC : WC n w) (hB : WB w) {s b : Int} (h0 : 0 ≤ b) (h1 : b < w 3) : bI (land_opens a s (10 + b) M) k = k (b2 (fitB s (oB w b 1) (oB w b 2))) M := by
  obtain ⟨c0, c1, c2, c3, -⟩ := hC
  obtain ⟨b0, b1, b2', -⟩ := hB b h0 h1
  obtain ⟨l0, l1, l2, -⟩ := hL.2.2.2.2.2.2 b h0 h1
  rw [land_opens_v (by omega) (by omega), l1, l2, ne_fit (by omega)]; rfl
/-- the things that fit a lock, whatever the lock's numbers are -/
def opB (a : Nat) (M : MM) (l : Int) (t : Nat) : Bool := decide ((t : Int) < M a 1) && !cmpB .ne (iAnd (M (a + 6) t) (M (a + 1) l.toNat)) (M (a + 2) l.toNat)
theorem land_openers_v (h : 0 ≤ M a 1 ∧ M a 1 ≤ 10) {l : Int} (h0 : 0 ≤ l) (h1 : l < 17) : land_openers a l M = some (rI ((bset 10 (opB a M l) : Nat) : Int), M) := by
  have hT : M a 1 = (((M a 1).toNat : Nat) : Int) := by omega
  unfold land_openers
  rw [or_run0 (L := fun F x i => land_openers_L4 a l (fun v2_4 M_5 => some (rI v2_4, M_5)) F x i M) (K := fun x => some (rI x, M)) (f := fun t => !cmpB .ne (iAnd (M (a + 6) t) (M (a + 1) l.toNat)) (M (a + 2) l.toNat)) (N := (M a 1).toNat) (by omega) (FU_gt (by omega)) ?_ ?_]
  · rw [← bset_ext (f := fun t => !cmpB .ne (iAnd (M (a + 6) t) (M (a + 1) l.toNat)) (M (a + 2) l.toNat)) (show (M a 1).toNat ≤ 10 by omega)]
    congr 4
    apply bset_cg
    intro i hi
    unfold opB
    congr 1
    exact decide_eq_decide.mpr (by omega)
  · intro n x i hi hx
    rw [land_openers_L4, bq_ge (by omega) (by omega), if_neg (by omega), bq_ge (by omega) (by omega), if_neg (by omega), bq_in (by omega) (by omega), Int.toNat_natCast, land_opens_v h0 h1, bI_I, bz_eq0]
    cases (!cmpB .ne (iAnd (M (a + 6) i) (M (a + 1) l.toNat)) (M (a + 2) l.toNat)) <;> rfl
  · intro n x
    rw [land_openers_L4, bq_ge (by omega) (by omega), if_pos (by omega)]
theorem land_openers_b (h : 0 ≤ M a 1 ∧ M a 1 ≤ 10) {l : Int} (h0 : 0 ≤ l) (h1 : l < 17) : bI (land_openers a l M) k = k ((bset 10 (opB a M l) : Nat) : Int) M := by rw [land_openers_v h h0 h1]; rfl
theorem opB_p (hL : LandR a w M) (hP : WP w) (h0 : 0 ≤ p) (h1 : p < w 0) (hk : oP w p 0 = 1) (j : Nat) : opB a M p j = (decide ((j : Int) < w 1) && fitK w j p) := by
  obtain ⟨p0, p1, p2, p3⟩ := hP p h0 h1
  obtain ⟨l1, l2, l3, l4, l5⟩ := hL.2.2.2.1 p h0 h1 hk
  unfold opB fitK
  rw [hL.1.2.1, l1, l2, ne_fit (by omega)]
  by_cases hj : (j : Int) < w 1
  · have := (hL.2.2.2.2.1 j (by omega) hj).1
    rw [Int.toNat_natCast] at this
    rw [this]
  · rw [decide_eq_false hj, Bool.false_and, Bool.false_and]
theorem opB_r (hL : LandR a w M) (hB : WB w) {b : Int} (h0 : 0 ≤ b) (h1 : b < w 3) (j : Nat) : opB a M (10 + b) j = (decide ((j : Int) < w 1) && fitR w j b) := by
  obtain ⟨b0, b1, b2', -⟩ := hB b h0 h1
  obtain ⟨l0, l1, l2, -⟩ := hL.2.2.2.2.2.2 b h0 h1
  unfold opB fitR
  rw [hL.1.2.1, l1, l2, ne_fit (by omega)]
  by_cases hj : (j : Int) < w 1
  · have := (hL.2.2.2.2.1 j (by omega) hj).1
    rw [Int.toNat_natCast] at this
    rw [this]
  · rw [decide_eq_false hj, Bool.false_and, Bool.false_and]
theorem land_worthOf_b (hL : LandR a w M) (hC : WC n w) (hs : s < 2147483648) : bI (land_worthOf a (s : Int) M) k = k (wO w s) M := by
  obtain ⟨c0, c1, -⟩ := hC
  have e := hL.1.2.1
  have hT : M a 1 = (((w 1).toNat : Nat) : Int) := by omega
  unfold land_worthOf
  rw [fo_run0 (L := fun F x i => land_worthOf_L4 a (s : Int) (fun v2_4 M_5 => some (rI v2_4, M_5)) F x i M) (K := fun x => some (rI x, M)) (g := fun i x => bif s.testBit i then x + oT w (i : Int) 1 else x) (N := (w 1).toNat) (FU_gt (by omega)) ?_ ?_]
  · rfl
  · intro n x i hi
    have := (hL.2.2.2.2.1 i (by omega) (by omega)).2
    rw [Int.toNat_natCast] at this
    rw [land_worthOf_L4, bq_ge (by omega) (by omega), if_neg (by omega), bq_ge (by omega) (by omega), if_neg (by omega), gh_bit_b hs (by omega), bz_ne1]
    cases s.testBit i with
    | true => simp only [cond_true]; rw [bq_in (by omega) (by omega), Int.toNat_natCast, this]
    | false => rfl
  · intro n x
    rw [land_worthOf_L4, bq_ge (by omega) (by omega), if_pos (by omega)]
theorem land_otherEnd_b (hL : LandR a w M) (hC : WC n w) (hR : WR w) (h0 : 0 ≤ v1) (h1 : v1 < w 2) (h2 : I32 v2) : bI (land_otherEnd a v1 v2 M) k = k (oE w v1 v2) M := by
  obtain ⟨c0, c1, c2, -⟩ := hC
  obtain ⟨r0, r1, -⟩ := hR v1 h0 h1
  obtain ⟨l0, l1, -⟩ := hL.2.2.2.2.2.1 v1 h0 h1
  unfold land_otherEnd oE
  rw [bq_in (by omega) (by omega), bq_ne (by omega) h2, l0]
  by_cases h : oR w v1 0 = v2
  · rw [if_pos h, if_pos h, bq_in (by omega) (by omega), l1]; rfl
  · rw [if_neg h, if_neg h, bq_in (by omega) (by omega), bq_ne (by omega) h2, l1]
    by_cases h9 : oR w v1 1 = v2
    · rw [if_pos h9, if_pos h9, bq_in (by omega) (by omega)]; rfl
    · rw [if_neg h9, if_neg h9]; rfl
theorem jny_lot_v (hJ : JnyR a w M) (hT : WT w) (hC : WC n w) (h0 : 0 ≤ t) (h1 : t < 10) : jny_lot a t M = some (rI (if t < w 1 then oT w t 2 else 0), M) := by
  obtain ⟨c0, c1, -⟩ := hC
  unfold jny_lot
  rw [hJ.2.2.1, gh_bit_s (by decide) h0 h1, bz_ne1]
  by_cases ht : t < w 1
  · have h3 := (hT t h0 ht).2.2.1
    rw [stB_eq h0 ht, if_pos ht, hJ.2.1, gh_bit_s (by decide) h0 h1, stB_eq h0 ht, bz_ne1, hJ.2.2.2.1, gh_bit_s (by decide) h0 h1, stB_eq h0 ht, bz_ne1]
    rcases (show oT w t 2 = 0 ∨ oT w t 2 = 1 ∨ oT w t 2 = 2 ∨ oT w t 2 = 3 by omega) with h | h | h | h <;> rw [h] <;> rfl
  · have hf : ∀ z, stB' w z t.toNat = false := fun z => by
      unfold stB'
      rw [decide_eq_false (show ¬ ((t.toNat : Nat) : Int) < w 1 by omega)]; rfl
    rw [hf, if_neg ht, hJ.2.1, gh_bit_s (by decide) h0 h1, hf, bz_ne1, hJ.2.2.2.1, gh_bit_s (by decide) h0 h1, hf, bz_ne1]
    rfl
theorem jny_lot_b (hJ : JnyR a w M) (hT : WT w) (hC : WC n w) (h0 : 0 ≤ t) (h1 : t < 10) : bI (jny_lot a t M) k = k (if t < w 1 then oT w t 2 else 0) M := by rw [jny_lot_v hJ hT hC h0 h1]; rfl
theorem jny_lying_v (hJ : JnyR a w M) (hT : WT w) (hC : WC n w) (h0 : 0 ≤ p) (h1 : p < 10) : jny_lying a p M = some (rI ((bset 10 (lyB w p) : Nat) : Int), M) := by
  have hC' := hC
  obtain ⟨c0, c1, -⟩ := hC'
  unfold jny_lying
  rw [or_run0 (L := fun F x i => jny_lying_L4 a p (fun v2_4 M_5 => some (rI v2_4, M_5)) F x i M) (K := fun x => some (rI x, M)) (f := lyB w p) (N := 10) (by decide) (FU_gt (by decide)) ?_ ?_]
  · intro n x i hi hx
    rw [jny_lying_L4, bq_ge (by omega) (by decide), if_neg (by omega), bq_in (by omega) (by omega), Int.toNat_natCast]
    by_cases ht : (i : Int) < w 1
    · obtain ⟨t0, t1, t2, t3⟩ := hT i (by omega) ht
      have := hJ.2.2.2.2.2.2.1 i (by omega) ht
      rw [Int.toNat_natCast] at this
      unfold lyB
      rw [decide_eq_true ht, this, bq_ne (by omega) (by omega), jny_lot_b hJ hT hC (by omega) (by omega), if_pos ht, bq_ne (by omega) (by decide), Bool.true_and]
      by_cases h3 : oT w (i : Int) 3 = p
      · rw [if_pos h3, decide_eq_true h3, Bool.and_true]
        by_cases h4 : oT w (i : Int) 2 = 0
        · rw [if_pos h4, decide_eq_true h4]; rfl
        · rw [if_neg h4, decide_eq_false h4]; rfl
      · rw [if_neg h3, decide_eq_false h3, Bool.and_false]; rfl
    · have := hJ.2.2.2.2.2.2.2.1 i (by omega) (by omega)
      rw [Int.toNat_natCast] at this
      unfold lyB
      rw [decide_eq_false ht, this, bq_ne (by decide) (by omega), if_neg (by omega)]; rfl
  · intro n x
    rw [jny_lying_L4, bq_ge (by decide) (by decide), if_pos (by decide)]
theorem jny_lying_b (hJ : JnyR a w M) (hT : WT w) (hC : WC n w) (h0 : 0 ≤ p) (h1 : p < 10) : bI (jny_lying a p M) k = k ((bset 10 (lyB w p) : Nat) : Int) M := by rw [jny_lying_v hJ hT hC h0 h1]; rfl
theorem gh_hasRoom_b (hs : s < 1024) : bI (gh_hasRoom (s : Int) M) k = k (b2 (decide (cnt s.testBit 10 < 4))) M := by
  have := cnt_le s.testBit 10
  unfold gh_hasRoom
  rw [bc_v, bI_I, bcv_s hs, bq_ge (by omega) (by decide), i_10, bI_I]
  congr 2
  rw [Bool.eq_iff_iff]
  simp
  omega
end ClsRows
