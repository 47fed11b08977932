/-! ===== THE LAW: what holds or not ===== -/
section At
variable {T : Nat → Int} {n a0 v : Nat} {st : List Bool}
theorem law_all {f u : Nat} (hn : n ≤ 400) (h0 : RdOK T n a0 v st (true :: st) (lawr_readAtom_F f (u : Int)) (mo_readAtom_F f)) (h1 : RdOK T n a0 v (true :: st) (true :: true :: st) (lawr_readAtom_F f (u : Int)) (mo_readAtom_F f)) : RdOK T n a0 v st (true :: st) (lawr_readAll (lawr_readAtom_F f) (u : Int)) (mo_readAllOf (mo_readAtom_F f)) :=
  list_law (LX := lawr_readAll_L7 (lawr_readAtom_F f) (u : Int) (fun M_13 => some (rV, M_13))) (LY := mo_readAllOf_L9 (mo_readAtom_F f) (fun M_13 => some (rI 1, M_13)) (fun M_15 => some (rI 0, M_15))) (tX := tape_tookWord 30) (tY := mo_passes 77) (c := 1009) (x := 13) (fun F v1 M => rfl) (fun F M => rfl) (Tk_word (wk rfl) (wk rfl) (by decide) (by decide) (by decide)) TkW_word hn (by unfold cdR; omega) rfl h0 h1
theorem law_cho {f u : Nat} (hn : n ≤ 400) (h0 : RdOK T n a0 v st (true :: st) (lawr_readAtom_F f (u : Int)) (mo_readAtom_F f)) (h1 : RdOK T n a0 v (true :: st) (true :: true :: st) (lawr_readAtom_F f (u : Int)) (mo_readAtom_F f)) (h2 : RdOK T n a0 v (true :: true :: st) (true :: true :: true :: st) (lawr_readAtom_F f (u : Int)) (mo_readAtom_F f)) : RdOK T n a0 v st (true :: st) (lawr_readChoice (lawr_readAtom_F f) (u : Int)) (mo_readCond (mo_readAtom_F f)) :=
  list_law (LX := lawr_readChoice_L7 (lawr_readAtom_F f) (u : Int) (fun M_13 => some (rV, M_13))) (LY := mo_readCond_L9 (mo_readAtom_F f) (fun M_13 => some (rI 1, M_13)) (fun M_15 => some (rI 0, M_15))) (tX := tape_tookWord 31) (tY := mo_passes 78) (c := 1010) (x := 14) (fun F v1 M => rfl) (fun F M => rfl) (Tk_word (wk rfl) (wk rfl) (by decide) (by decide) (by decide)) TkW_word hn (by unfold cdR; omega) rfl (law_all hn h0 h1) (law_all hn h1 h2)
theorem deep_b {C : MM} {p l u : Nat} {k : Int → MM → OR} (hu : u ≤ 6) : bI (lawr_isTooDeep (u : Int) (tpT C p l (-1))) k = if u = 6 then k 1 (tpT C p l (l : Int)) else k 0 (tpT C p l (-1)) := by
  unfold lawr_isTooDeep
  rw [bq_ge (by omega) (by decide), cT_3, failAt_b (by decide), if_pos rfl]
  by_cases h : u = 6
  · rw [if_pos h, if_pos (by omega), bI_I]
  · rw [if_neg h, if_neg (by omega), bI_I]
theorem wd_ch {t q : Nat} (h : wdB T n t q = true) (h0 : 0 < wLen t) : T q = wCh t 0 := by
  unfold wdB at h
  rw [Bool.and_eq_true] at h
  have h2 := h.2
  obtain ⟨m, hm⟩ : ∃ m, wLen t = m + 1 := ⟨wLen t - 1, by omega⟩
  rw [hm] at h2
  unfold wdA at h2
  rw [Bool.and_eq_true] at h2
  exact of_decide_eq_true h2.1
theorem law_cmp {p l e s d : Nat} {C N : MM} (hn : n ≤ 400) (hst : st.length + 3 ≤ 32) (hC : TC T n C) (hN : TN T n N) (hS : LwS C N a0 s (false :: st) v) (hd : s + d ≤ p) (h1 : 1 ≤ d) (hp : p ≤ n) : LpR n a0 v s d C N (true :: st) (bI (lawr_readComparison (tpT C p l (-1))) fun z_15 M_14 => (bV (lawr_readSum M_14) fun M_17 => (bV (law_append 43 z_15 M_17) fun M_20 => some (rV, M_20)))) (bI (mo_isSign 60 (nT N p e)) fun z_15 M_14 => (bif cmpB .ne z_15 0 then (bI (mo_readSum M_14) fun z_18 M_17 => (bif cmpB .ne z_18 0 then (bif cmpB .eq z_15 0 then (bV (mo_emits 11 0 M_17) fun M_20 => some (rI 1, M_20)) else (bV (mo_emits 10 0 M_17) fun M_23 => some (rI 1, M_23))) else some (rI 0, M_17))) else (bI (mo_isSign 62 M_14) fun z_27 M_26 => (bif cmpB .eq z_27 0 then some (rI 0, M_26) else (bI (mo_readSum M_26) fun z_30 M_29 => (bif cmpB .ne z_30 0 then (bif cmpB .eq z_15 0 then (bV (mo_emits 11 0 M_29) fun M_32 => some (rI 1, M_32)) else (bV (mo_emits 10 0 M_29) fun M_35 => some (rI 1, M_35))) else some (rI 0, M_29))))))) := by
  have a1 := skB_le (T := T) hp
  have hk := skB_sk (T := T) hp
  have hnk : nOK C := by
    unfold nOK
    rw [hS.1]
    omega
  have hs2 : RdOK T n a0 v (false :: st) (false :: false :: st) lawr_readSum mo_readSum := law_sum hn (by simp only [List.length_cons]; omega)
  unfold lawr_readComparison
  rw [mark_b hC hp (by decide) (by decide), sign_b hN hp (by decide)]
  by_cases g : skB T n p < n ∧ T (skB T n p) = 60
  · rw [if_pos ⟨rfl, g.1, g.2⟩, if_pos g, bq_eq (by decide) (by decide), if_neg (by decide), bI_I, bq_ne (by decide) (by decide), if_neg (by decide)]
    refine LpR_bind hC (hs2 _ _ _ s (skB T n p + 1 - s) C N hC hN hS (by omega) (by omega) (by omega)) (fun N' => by show (bif cmpB .ne 0 0 then _ else _) = _; rw [bq_ne (by decide) (by decide), if_pos rfl]) (fun q C1 p1 l1 hq g1 => WQ_app fun C2 n2 f2 => WQ_ret g1) (fun C1 N1 s1 p1 l1 e1 hT1 f1 hs1 hS1 hd1 hp1 => ?_)
    rw [bq_ne (by decide) (by decide), if_neg (by decide)]
    rw [bq_eq (by decide) (by decide), if_neg (by decide)]
    exact LpR_emit hn hS1 (by unfold cdR; omega) rfl (by omega) hp1
  · rw [if_neg (fun x => g x.2), if_neg g, bq_eq (by decide) (by decide), if_pos rfl, mark_b hC a1.2 (by decide) (by decide), hk]
    by_cases g2 : skB T n p < n ∧ T (skB T n p) = 62
    · rw [if_pos ⟨rfl, g2.1, g2.2⟩, bq_ne (by decide) (by decide), if_neg (by decide), bI_I, bq_ne (by decide) (by decide), if_pos rfl, sign_b hN a1.2 (by decide), hk, if_pos g2, bq_eq (by decide) (by decide), if_neg (by decide)]
      refine LpR_bind hC (hs2 _ _ _ s (skB T n p + 1 - s) C N hC hN hS (by omega) (by omega) (by omega)) (fun N' => by show (bif cmpB .ne 0 0 then _ else _) = _; rw [bq_ne (by decide) (by decide), if_pos rfl]) (fun q C1 p1 l1 hq g1 => WQ_app fun C2 n2 f2 => WQ_ret g1) (fun C1 N1 s1 p1 l1 e1 hT1 f1 hs1 hS1 hd1 hp1 => ?_)
      rw [bq_ne (by decide) (by decide), if_neg (by decide)]
      rw [bq_eq (by decide) (by decide), if_pos rfl]
      exact LpR_emit hn hS1 (by unfold cdR; omega) rfl (by omega) hp1
    · rw [if_neg (fun x => g2 x.2), bq_ne (by decide) (by decide), if_pos rfl, fail_b hC a1.2 (by decide), if_pos rfl, hk, bI_I, bq_ne (by decide) (by decide), if_pos rfl, sign_b hN a1.2 (by decide), hk, if_neg g2, bq_eq (by decide) (by decide), if_pos rfl]
      exact LpR_w hC hnk FrT.rf FrL.rf a1.2 (WQ_bind (WQ_sum (by omega) (by omega) a1.2) fun C5 p5 l5 f5 h5 => WQ_app fun C6 n6 f6 => WQ_ret h5)
theorem law_atom (hn : n ≤ 400) : ∀ f v st, 7 ≤ f + v → v ≤ 6 → st.length + 15 ≤ 32 + 2 * v → RdOK T n a0 v st (true :: st) (lawr_readAtom_F f (v : Int)) (mo_readAtom_F f) := by
  intro f
  induction f with
  | zero => intro v st h1 h2; omega
  | succ f ih =>
    intro v st hf hv6 hst p l e s d C N hC hN hS hd h1 hp
    have a1 := skB_le (T := T) hp
    have hk := skB_sk (T := T) hp
    have hv : N 165 12 = (v : Int) := hS.2.2.1
    have hnk : nOK C := by
      unfold nOK
      rw [hS.1]
      omega
    have ne0 : ∀ {Z : OR} (N' : MM), (bif cmpB .ne 0 0 then Z else some (rI 0, N')) = some (rI 0, N') := fun N' => by rw [bq_ne (by decide) (by decide), if_pos rfl]
    show LpR n a0 v s d C N (true :: st) (lawr_readAtom (lawr_readAtom_F f) (v : Int) (tpT C p l (-1))) (mo_readAtom (mo_readAtom_F f) (nT N p e))
    unfold lawr_readAtom mo_readAtom
    rw [word_b hC hp (wk rfl), sign_b hN hp (by decide)]
    by_cases gA : wdB T n 21 (skB T n p) = true
    · have c0 : T (skB T n p) = wCh 21 0 := wd_ch gA (by decide)
      have c1 : wCh 21 0 = 110 := by decide
      have lA := wd_le a1.2 gA
      have l3 : wLen 21 = 3 := by decide
      have l3' : wLen 71 = 3 := by decide
      rw [if_pos gA, if_neg (fun x => by have := x.2; omega), bq_eq (by decide) (by decide), if_neg (by decide), bq_eq (by decide) (by decide), if_pos rfl, passes_b hN a1.2 (wk rfl), hk, ← wd_cg (t := 21) (t' := 71) (by decide) (by decide), if_pos gA, bq_eq (by decide) (by decide), if_neg (by decide), deep_b hv6, nT_j (by decide) (by decide), hv, bq_ne (by omega) (by decide), l3, l3']
      by_cases h6 : v = 6
      · rw [if_pos h6, if_pos (by omega), bq_eq (by decide) (by decide), if_neg (by decide)]
        exact Or.inr ⟨skB T n p, C, _, _, N, _, rfl, rfl, FrT.rf, FrL.rf, by omega, a1.2, hnk⟩
      · rw [if_neg h6, if_neg (by omega), bq_eq (by decide) (by decide), if_pos rfl, sM_eq, nT_v (by decide) (by decide), show (v : Int) + 1 = ((v + 1 : Nat) : Int) by omega]
        have hS1 := LwS_v (v' := v + 1) hS rfl
        refine LpR_fr (Nat.le_refl s) FrQ.rf (FrL.d (N := N) (x := ((v + 1 : Nat) : Int))) ?_
        refine LpR_bind hC (ih (v + 1) st (by omega) (by omega) (by omega) _ _ _ s (skB T n p + 3 - s) C _ hC (TN_v hN (by decide)) hS1 (by omega) (by omega) (by omega)) (fun N' => ne0 N') (fun q C1 p1 l1 hq g1 => WQ_app fun C2 n2 f2 => WQ_ret g1) (fun C1 N1 s1 p1 l1 e1 hT1 f1 hs1 hS1 hd1 hp1 => ?_)
        rw [bq_ne (by decide) (by decide), if_neg (by decide), sM_eq, nT_j (by decide) (by decide), nT_v (by decide) (by decide)]
        have hS2 := LwS_v (v' := v) (x := N1 165 12 - 1) hS1 (by rw [hS1.2.2.1]; omega)
        refine LpR_fr (Nat.le_refl s1) FrQ.rf (FrL.d (N := N1) (x := N1 165 12 - 1)) ?_
        exact LpR_emit hn hS2 (by unfold cdR; omega) rfl (by omega) hp1
    · rw [if_neg gA, bq_eq (by decide) (by decide), if_pos rfl, mark_b hC a1.2 (by decide) (by decide), hk]
      by_cases gB : skB T n p < n ∧ T (skB T n p) = 40
      · rw [if_pos ⟨rfl, gB.1, gB.2⟩, if_pos gB, bq_eq (by decide) (by decide), if_neg (by decide), bq_eq (by decide) (by decide), if_neg (by decide), deep_b hv6, nT_j (by decide) (by decide), hv, bq_ne (by omega) (by decide)]
        by_cases h6 : v = 6
        · rw [if_pos h6, if_pos (by omega), bq_eq (by decide) (by decide), if_neg (by decide)]
          exact Or.inr ⟨skB T n p, C, _, _, N, _, rfl, rfl, FrT.rf, FrL.rf, by omega, a1.2, hnk⟩
        · rw [if_neg h6, if_neg (by omega), bq_eq (by decide) (by decide), if_pos rfl, sM_eq, nT_v (by decide) (by decide), show (v : Int) + 1 = ((v + 1 : Nat) : Int) by omega]
          have hS1 := LwS_v (v' := v + 1) hS rfl
          refine LpR_fr (Nat.le_refl s) FrQ.rf (FrL.d (N := N) (x := ((v + 1 : Nat) : Int))) ?_
          have hch := law_cho (f := f) (u := v + 1) (v := v + 1) (a0 := a0) (T := T) hn (ih (v + 1) st (by omega) (by omega) (by omega)) (ih (v + 1) (true :: st) (by omega) (by omega) (by simp only [List.length_cons]; omega)) (ih (v + 1) (true :: true :: st) (by omega) (by omega) (by simp only [List.length_cons]; omega))
          refine LpR_bind hC (hch _ _ _ s (skB T n p + 1 - s) C _ hC (TN_v hN (by decide)) hS1 (by omega) (by omega) (by omega)) (fun N' => ne0 N') (fun q C1 p1 l1 hq g1 => WQ_mark (by omega) (by omega) (by decide) g1 fun p2 h2 => WQ_ne0 (WQ_fail (by omega) (by omega) h2 fun p3 h3 => WQ_ret h3)) (fun C1 N1 s1 p1 l1 e1 hT1 f1 hs1 hS1 hd1 hp1 => ?_)
          rw [bq_ne (by decide) (by decide), if_neg (by decide), sM_eq, nT_j (by decide) (by decide), nT_v (by decide) (by decide)]
          have hS2 := LwS_v (v' := v) (x := N1 165 12 - 1) hS1 (by rw [hS1.2.2.1]; omega)
          refine LpR_fr (Nat.le_refl s1) FrQ.rf (FrL.d (N := N1) (x := N1 165 12 - 1)) ?_
          have b1 := skB_le (T := T) hp1
          have hN1 : TN T n (mU N1 165 12 (N1 165 12 - 1)) := TN_v (f1.t (TN_v hN (by decide))) (by decide)
          rw [mark_b hT1 hp1 (by decide) (by decide), sign_b hN1 hp1 (by decide)]
          by_cases g3 : skB T n p1 < n ∧ T (skB T n p1) = 41
          · rw [if_pos ⟨rfl, g3.1, g3.2⟩, if_pos g3, bq_ne (by decide) (by decide), if_neg (by decide)]
            exact Or.inl ⟨C1, _, s1, _, _, _, rfl, rfl, FrQ.rf, FrL.rf, hS2, Nat.le_refl s1, by omega, by omega⟩
          · rw [if_neg (fun x => g3 x.2), if_neg g3, bq_ne (by decide) (by decide), if_pos rfl, fail_b hT1 b1.2 (by decide), if_pos rfl, skB_sk hp1]
            refine Or.inr ⟨skB T n p1, C1, _, _, _, _, rfl, rfl, FrT.rf, FrL.rf, b1.2, b1.2, ?_⟩
            unfold nOK
            rw [hS1.1]
            omega
      · rw [if_neg (fun x => gB x.2), if_neg gB, bq_eq (by decide) (by decide), if_pos rfl, bq_eq (by decide) (by decide), if_pos rfl, passes_b hN a1.2 (wk rfl), hk, ← wd_cg (t := 21) (t' := 71) (by decide) (by decide), if_neg gA, bq_eq (by decide) (by decide), if_pos rfl, word_b hC a1.2 (wk rfl), hk, passes_b hN a1.2 (wk rfl), hk, ← wd_cg (t := 22) (t' := 72) (by decide) (by decide)]
        by_cases gC : wdB T n 22 (skB T n p) = true
        · have lC := wd_le a1.2 gC
          have l5 : wLen 22 = 5 := by decide
          have l5' : wLen 72 = 5 := by decide
          rw [if_pos gC, if_pos gC, bq_eq (by decide) (by decide), if_neg (by decide), bq_eq (by decide) (by decide), if_neg (by decide), l5, l5']
          refine LpR_emit hn hS (by unfold cdR; omega) ?_ (by omega) (by omega)
          unfold ty1
          rw [if_pos (by decide), if_pos (show st.length < 32 by omega), decide_eq_true rfl]
        · rw [if_neg gC, if_neg gC, bq_eq (by decide) (by decide), if_pos rfl, bq_eq (by decide) (by decide), if_pos rfl]
          refine LpR_bind hC (law_sum (a0 := a0) (v := v) (st := st) (T := T) hn (by omega) _ _ _ s d C N hC hN hS (by omega) h1 a1.2) (fun N' => ne0 N') (fun q C1 p1 l1 hq g1 => fun hT hn2 => ?_) (fun C1 N1 s1 p1 l1 e1 hT1 f1 hs1 hS1 hd1 hp1 => ?_)
          · obtain ⟨p3, h3, e3⟩ := cmp_w (l := l1) (b := (q : Int)) hT (by omega) (by omega) g1
            rw [e3, bI_I]
            exact (WQ_bind (WQ_sum (by omega) (by omega) h3) fun C5 p5 l5 f5 h5 => WQ_app fun C6 n6 f6 => WQ_ret h5) hT hn2
          · rw [bq_ne (by decide) (by decide), if_neg (by decide)]
            exact law_cmp hn (by omega) hT1 (f1.t hN) hS1 hd1 h1 hp1
end At
