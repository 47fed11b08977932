/-! ===== THE LAW: parts ===== -/
def FrQ (C C' : MM) : Prop := FrT C C' ∧ (∀ j, j ≠ 4 → C' 43 j = C 43 j) ∧ C' 44 = C 44 ∧ C' 45 = C 45
theorem FrQ.rf {C : MM} : FrQ C C := ⟨FrT.rf, fun _ _ => rfl, rfl, rfl⟩
theorem FrQ.tr {C C1 C2 : MM} (h : FrQ C C1) (g : FrQ C1 C2) : FrQ C C2 := ⟨h.1.tr g.1, fun j hj => (g.2.1 j hj).trans (h.2.1 j hj), g.2.2.1.trans h.2.2.1, g.2.2.2.trans h.2.2.2⟩
theorem FrQ_ap {C : MM} {s : Nat} {c : Int} : FrQ C (aqC C s c) := ⟨FrT_ap, fun j hj => by unfold aqC; rw [mU_eq, up_ne hj, mU_ne (by decide)], by unfold aqC; rw [mU_ne (by decide), mU_ne (by decide)], by unfold aqC; rw [mU_ne (by decide), mU_ne (by decide)]⟩
/-- one reader on both sides -/
def LpR (n a0 v s d : Nat) (C N : MM) (st : List Bool) (X Y : OR) : Prop := (∃ (C' N' : MM) (s' p' l' e' : Nat), X = some (rV, tpT C' p' l' (-1)) ∧ Y = some (rI 1, nT N' p' e') ∧ FrQ C C' ∧ FrL s N N' ∧ LwS C' N' a0 s' st v ∧ s ≤ s' ∧ s' + d ≤ p' ∧ p' ≤ n) ∨ ∃ (q : Nat) (C' : MM) (p' l' : Nat) (N' : MM) (p'' : Nat), X = some (rV, tpT C' p' l' (q : Int)) ∧ Y = some (rI 0, nT N' p'' q) ∧ FrT C C' ∧ FrL s N N' ∧ p' ≤ n ∧ q ≤ n ∧ nOK C'
section LpR
variable {T : Nat → Int} {n a0 v s d p l e : Nat} {C N : MM} {st : List Bool}
theorem LpR_fr {C0 N0 : MM} {s0 : Nat} {X Y : OR} (hs : s0 ≤ s) (h1 : FrQ C0 C) (h2 : FrL s0 N0 N) (H : LpR n a0 v s d C N st X Y) : LpR n a0 v s0 d C0 N0 st X Y := by
  rcases H with ⟨C', N', s', p', l', e', x1, x2, x3, x4, x5, x6, x7, x8⟩ | ⟨q, C', p', l', N', p'', x1, x2, x3, x4, x5, x6, x7⟩
  · exact Or.inl ⟨C', N', s', p', l', e', x1, x2, h1.tr x3, h2.tr hs x4, x5, by omega, x7, x8⟩
  · exact Or.inr ⟨q, C', p', l', N', p'', x1, x2, h1.1.tr x3, h2.tr hs x4, x5, x6, x7⟩
/-- the reference has stopped, the class goes on -/
theorem LpR_w {C1 N1 : MM} {X : OR} {q p'' : Nat} (hT : TC T n C1) (hn : nOK C1) (h1 : FrT C C1) (h2 : FrL s N N1) (hq : q ≤ n) (hX : WQ T n (q : Int) C1 X) : LpR n a0 v s d C N st X (some (rI 0, nT N1 p'' q)) := by
  obtain ⟨C', p', l', a1, a2, a3, a4⟩ := hX hT hn
  exact Or.inr ⟨q, C', p', l', N1, p'', a1, rfl, h1.tr a2, h2, a3, hq, a4⟩
theorem LpR_bind {X1 Y1 : OR} {st1 : List Bool} {v1 d1 : Nat} {kX : MM → OR} {kY : Int → MM → OR} (hT : TC T n C) (H1 : LpR n a0 v1 s d1 C N st1 X1 Y1) (hY : ∀ N', kY 0 N' = some (rI 0, N')) (hW : ∀ (q : Nat) (C1 : MM) (p1 l1 : Nat), q ≤ n → p1 ≤ n → WQ T n (q : Int) C1 (kX (tpT C1 p1 l1 (q : Int)))) (H : ∀ (C1 N1 : MM) (s1 p1 l1 e1 : Nat), TC T n C1 → FrL s N N1 → s ≤ s1 → LwS C1 N1 a0 s1 st1 v1 → s1 + d1 ≤ p1 → p1 ≤ n → LpR n a0 v s1 d C1 N1 st (kX (tpT C1 p1 l1 (-1))) (kY 1 (nT N1 p1 e1))) : LpR n a0 v s d C N st (bV X1 kX) (bI Y1 kY) := by
  rcases H1 with ⟨C1, N1, s1, p1, l1, e1, x1, x2, x3, x4, x5, x6, x7, x8⟩ | ⟨q, C1, p1, l1, N1, p2, x1, x2, x3, x4, x5, x6, x7⟩
  · rw [x1, x2, bV_V, bI_I]
    exact LpR_fr x6 x3 x4 (H C1 N1 s1 p1 l1 e1 (x3.1.t hT) x4 x6 x5 x7 x8)
  · rw [x1, x2, bV_V, bI_I, hY]
    exact LpR_w (x3.t hT) x7 x3 x4 x6 (hW q C1 p1 l1 x6 x5)
theorem LpR_emit {st' : List Bool} {c x y : Int} (hn : n ≤ 400) (hS : LwS C N a0 s st v) (hc : cdR c x y) (ht : ty1 x st = some st') (hd : s + 1 + d ≤ p) (hp : p ≤ n) : LpR n a0 v s d C N st' (bV (law_append 43 c (tpT C p l (-1))) fun M => some (rV, M)) (bV (mo_emits x y (nT N p e)) fun M => some (rI 1, M)) := by
  rw [app_b hS.1 (by omega), emit_b hS.2.1 (by omega)]
  exact Or.inl ⟨_, _, s + 1, p, l, e, rfl, rfl, FrQ_ap, FrL_em (Nat.le_refl s), LwS_em hS hc ht, by omega, hd, hp⟩
theorem lt_in {q : Nat} (hq : q ≤ n) (h : ltE T n q ≠ q) : q < n ∧ isL T q = true := by
  by_cases g : q < n
  · refine ⟨g, ?_⟩
    cases hb : isL T q with
    | true => rfl
    | false =>
      exfalso
      apply h
      unfold ltE
      rw [show n - q = (n - q - 1) + 1 by omega, runF_f hb]
  · exfalso
    apply h
    unfold ltE
    rw [show n - q = 0 by omega]; rfl
theorem dg_out {q : Nat} (h : (decide (q < n) && isD T q) = false) : dgE T n q = q := by
  unfold dgE
  by_cases g : q < n
  · rw [decide_eq_true g, Bool.true_and] at h
    rw [show n - q = (n - q - 1) + 1 by omega, runF_f h]
  · rw [show n - q = 0 by omega]; rfl
theorem wd_out {t q : Nat} (h : ltE T n q = q) (hw : 0 < wLen t) : wdB T n t q = false := by
  unfold wdB
  rw [decide_eq_false (by omega), Bool.false_and]
/-- one word on both sides, at letters -/
theorem LpR_word {A B A' B' : MM → OR} {t t' q : Nat} (hT : TC T n C) (hN : TN T n N) (hq : q ≤ n) (hk : skB T n q = q) (ht : wOK t) (ht' : wOK t') (e1 : stB.getD t [] = stB.getD t' []) (e2 : wLen t = wLen t') (HB : LpR n a0 v s d C N st (B (tpT C (ltE T n q) q (-1))) (B' (nT N (ltE T n q) q))) (HA : LpR n a0 v s d C N st (A (tpT C q l (-1))) (A' (nT N (ltE T n q) q))) : LpR n a0 v s d C N st (bI (tape_tookWord t (tpT C q l (-1))) fun z M => (bif cmpB .eq z 0 then A M else B M)) (bI (mo_isWord t' (nT N (ltE T n q) q)) fun z M => (bif cmpB .eq z 0 then A' M else B' M)) := by
  rw [word_b hT hq ht, isWord_b hN ht' rfl hq, hk, ← wd_cg e1 e2, bz_eq0]
  by_cases g : wdB T n t q = true
  · have : ltE T n q = q + wLen t := by
      unfold wdB at g
      rw [Bool.and_eq_true] at g
      exact of_decide_eq_true g.1
    rw [if_pos g, g, cn_t, ← this, bq_eq (by decide) (by decide), if_neg (by decide)]
    exact HB
  · rw [if_neg g, Bool.eq_false_iff.mpr g, cn_f, bq_eq (by decide) (by decide), if_pos rfl]
    exact HA
theorem law_part (hn : n ≤ 400) (hC : TC T n C) (hN : TN T n N) (hS : LwS C N a0 s st v) (hd : s + d ≤ p) (h1 : 1 ≤ d) (hp : p ≤ n) (hst : st.length < 32) : LpR n a0 v s d C N (false :: st) (lawr_readPart (tpT C p l (-1))) (mo_readPart (nT N p e)) := by
  have a1 := skB_le (T := T) hp
  have hk := skB_sk (T := T) hp
  have a2 := ltE_le (T := T) a1.2
  have tyk : ∀ x : Int, 0 ≤ x → x ≤ 8 → x ≠ 7 → ty1 x st = some (false :: st) := fun x h0 h8 h7 => by
    unfold ty1
    rw [if_pos h8, if_pos hst, decide_eq_false h7]
  have hnk : nOK C := by
    unfold nOK
    rw [hS.1]
    omega
  unfold lawr_readPart mo_readPart
  rw [digit_b hC hp (by decide), letters_b hN hp, nT_9, nT_11, bq_ne (by omega) (by omega), bz_eq0, decide_eq_true rfl, Bool.true_and]
  by_cases g : ltE T n (skB T n p) = skB T n p
  · rw [if_pos (show ((ltE T n (skB T n p) : Nat) : Int) = ((skB T n p : Nat) : Int) by omega), g, number_b hN a1.2 (by decide) (by decide), hk]
    by_cases gd : (decide (skB T n p < n) && isD T (skB T n p)) = true
    · rw [gd, cn_t, num_b hC a1.2 (by decide) (by decide), hk]
      by_cases go : nuO T n (skB T n p) 0 999 = true
      · have o := nuO_i.mp go
        have o4 := dgE_le (T := T) a1.2
        have hv : 0 ≤ nuV T n (skB T n p) ∧ nuV T n (skB T n p) ≤ 999 := ⟨o.2.2.1, o.2.2.2⟩
        rw [if_pos go, if_pos go]
        rw [app_b hS.1 (by omega), emit_b hS.2.1 (by omega), bq_lt (by omega) (by decide), if_neg (by omega)]
        exact Or.inl ⟨_, _, s + 1, _, _, _, rfl, rfl, FrQ_ap, FrL_em (Nat.le_refl s), LwS_em hS (Or.inl ⟨rfl, rfl, hv.1, hv.2⟩) (tyk 8 (by decide) (by decide) (by decide)), by omega, by omega, o4.2⟩
      · rw [if_neg go, if_neg go, emit_b hS.2.1 (by omega), bq_lt (by decide) (by decide), if_pos (by decide)]
        exact LpR_w hC hnk FrT.rf (FrL_em (Nat.le_refl s)) a1.2 (WQ_app fun C1 n1 f1 => WQ_ret a1.2)
    · have gd' := Bool.eq_false_iff.mpr gd
      have go : ¬ nuO T n (skB T n p) 0 999 = true := fun x => by
        have := (nuO_i.mp x).1
        rw [dg_out gd'] at this
        omega
      rw [gd', cn_f, if_neg go, emit_b hS.2.1 (by omega), bq_lt (by decide) (by decide), if_pos (by decide)]
      have w : ∀ {t : Nat} {k : Int → MM → OR}, wOK t → 0 < wLen t → bI (tape_tookWord t (tpT C (skB T n p) l (-1))) k = k 0 (tpT C (skB T n p) l (-1)) := fun {t k} ht h0 => by
        rw [word_b hC a1.2 ht, hk, wd_out g h0, if_neg (by decide)]
      rw [w (wk rfl) (by decide), bq_eq (by decide) (by decide), if_pos rfl, w (wk rfl) (by decide), bq_eq (by decide) (by decide), if_pos rfl, w (wk rfl) (by decide), bq_eq (by decide) (by decide), if_pos rfl, w (wk rfl) (by decide), bq_eq (by decide) (by decide), if_pos rfl, w (wk rfl) (by decide), bq_eq (by decide) (by decide), if_pos rfl, w (wk rfl) (by decide), bq_eq (by decide) (by decide), if_pos rfl, w (wk rfl) (by decide), bq_eq (by decide) (by decide), if_pos rfl, fail_b hC a1.2 (by decide), if_pos rfl, hk]
      exact LpR_w hC hnk FrT.rf (FrL_em (Nat.le_refl s)) a1.2 (WQ_ret a1.2)
  · obtain ⟨g1, g2⟩ := lt_in a1.2 g
    have gd : (decide (skB T n p < n) && isD T (skB T n p)) = false := by
      unfold isL at g2
      unfold isD
      rw [Bool.and_eq_true] at g2
      have := of_decide_eq_true g2.1
      rw [decide_eq_false (show ¬ T (skB T n p) ≤ 57 by omega), Bool.and_false, Bool.and_false]
    rw [gd, cn_f, if_neg (show ¬ ((ltE T n (skB T n p) : Nat) : Int) = ((skB T n p : Nat) : Int) by omega)]
    have em : ∀ {c x : Int}, 0 ≤ x → x ≤ 6 → c = 1000 + x → LpR n a0 v s d C N (false :: st) (bV (law_append 43 c (tpT C (ltE T n (skB T n p)) (skB T n p) (-1))) fun M => some (rV, M)) (bV (mo_emits x 0 (nT N (ltE T n (skB T n p)) (skB T n p))) fun M => some (rI 1, M)) := fun {c x} h0 h6 hc => LpR_emit hn hS (Or.inr (Or.inl ⟨⟨h0, by omega⟩, hc⟩)) (tyk x h0 (by omega) (by omega)) (by omega) a2.2
    refine LpR_word hC hN a1.2 hk (wk rfl) (wk rfl) (by decide) (by decide) (em (by decide) (by decide) (by decide)) ?_
    refine LpR_word hC hN a1.2 hk (wk rfl) (wk rfl) (by decide) (by decide) (em (by decide) (by decide) (by decide)) ?_
    refine LpR_word hC hN a1.2 hk (wk rfl) (wk rfl) (by decide) (by decide) (em (by decide) (by decide) (by decide)) ?_
    refine LpR_word hC hN a1.2 hk (wk rfl) (wk rfl) (by decide) (by decide) (em (by decide) (by decide) (by decide)) ?_
    refine LpR_word hC hN a1.2 hk (wk rfl) (wk rfl) (by decide) (by decide) (em (by decide) (by decide) (by decide)) ?_
    refine LpR_word hC hN a1.2 hk (wk rfl) (wk rfl) (by decide) (by decide) (em (by decide) (by decide) (by decide)) ?_
    refine LpR_word hC hN a1.2 hk (wk rfl) (wk rfl) (by decide) (by decide) (em (by decide) (by decide) (by decide)) ?_
    rw [fail_b hC a1.2 (by decide), if_pos rfl, hk, emit_b hS.2.1 (by omega)]
    exact LpR_w hC hnk FrT.rf (FrL_em (Nat.le_refl s)) a1.2 (WQ_ret a1.2)
end LpR
