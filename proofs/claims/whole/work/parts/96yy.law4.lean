/-! ===== THE LAW: what is joined by a sign or a word ===== -/
def TkOK (T : Nat → Int) (n : Nat) (tX tY : MM → OR) : Prop := ∀ (C N : MM) (p l e : Nat), TC T n C → TN T n N → p ≤ n → ∃ (g : Bool) (p' l' e' : Nat), (∀ k, bI (tX (tpT C p l (-1))) k = k (b2 g) (tpT C p' l' (-1))) ∧ (∀ k, bI (tY (nT N p e)) k = k (b2 g) (nT N p' e')) ∧ p' ≤ n ∧ p + (if g = true then 1 else 0) ≤ p'
def TkW (T : Nat → Int) (n : Nat) (tX : MM → OR) : Prop := ∀ (C : MM) (p l q : Nat) (k : Int → MM → OR), q ≤ n → p ≤ n → n ≤ 400 → (∀ p', p' ≤ n → WQ T n (q : Int) C (k 0 (tpT C p' l (q : Int)))) → WQ T n (q : Int) C (bI (tX (tpT C p l (q : Int))) k)
theorem Tk_mark {T : Nat → Int} {n : Nat} {c : Int} (hc : 0 ≤ c ∧ c ≤ 127) : TkOK T n (tape_tookMark c) (mo_isSign c) := by
  intro C N p l e hC hN hp
  have a1 := skB_le (T := T) hp
  by_cases g : skB T n p < n ∧ T (skB T n p) = c
  · refine ⟨true, skB T n p + 1, skB T n p, skB T n p, fun k => ?_, fun k => ?_, by omega, by rw [if_pos rfl]; omega⟩
    · rw [mark_b hC hp (by decide) (by omega), if_pos ⟨rfl, g.1, g.2⟩]; rfl
    · rw [sign_b hN hp hc, if_pos g]; rfl
  · refine ⟨false, skB T n p, l, skB T n p, fun k => ?_, fun k => ?_, by omega, by rw [if_neg (by decide)]; omega⟩
    · rw [mark_b hC hp (by decide) (by omega), if_neg (fun x => g x.2)]; rfl
    · rw [sign_b hN hp hc, if_neg g]; rfl
theorem Tk_word {T : Nat → Int} {n t t' : Nat} (ht : wOK t) (ht' : wOK t') (e1 : stB.getD t [] = stB.getD t' []) (e2 : wLen t = wLen t') (h0 : 0 < wLen t) : TkOK T n (tape_tookWord t) (mo_passes t') := by
  intro C N p l e hC hN hp
  have a1 := skB_le (T := T) hp
  by_cases g : wdB T n t (skB T n p) = true
  · have := wd_le a1.2 g
    refine ⟨true, skB T n p + wLen t, skB T n p, skB T n p, fun k => ?_, fun k => ?_, by omega, by rw [if_pos rfl]; omega⟩
    · rw [word_b hC hp ht, if_pos g]; rfl
    · rw [passes_b hN hp ht', ← wd_cg e1 e2, if_pos g, ← e2]; rfl
  · refine ⟨false, skB T n p, l, skB T n p, fun k => ?_, fun k => ?_, by omega, by rw [if_neg (by decide)]; omega⟩
    · rw [word_b hC hp ht, if_neg g]; rfl
    · rw [passes_b hN hp ht', ← wd_cg e1 e2, if_neg g]; rfl
theorem TkW_mark {T : Nat → Int} {n : Nat} {c : Int} (hc : I32 c) : TkW T n (tape_tookMark c) := fun C p l q k hq hp hn H => WQ_mark (by omega) (by omega) hc hp H
theorem TkW_word {T : Nat → Int} {n t : Nat} : TkW T n (tape_tookWord t) := fun C p l q k hq hp hn H => WQ_took (by omega) (by omega) (H p hp)
section Lp
variable {T : Nat → Int} {n a0 v : Nat} {st : List Bool} {LX : Nat → Int → MM → OR} {LY : Nat → MM → OR} {RX RY tX tY : MM → OR} {c x : Int} {b : Bool}
/-- reads one more of the same kind -/
def RdOK (T : Nat → Int) (n a0 v : Nat) (st st' : List Bool) (RX RY : MM → OR) : Prop := ∀ (p l e s d : Nat) (C N : MM), TC T n C → TN T n N → LwS C N a0 s st v → s + d ≤ p → 1 ≤ d → p ≤ n → LpR n a0 v s d C N st' (RX (tpT C p l (-1))) (RY (nT N p e))
theorem loop_w (eX : ∀ F v1 M, LX (F + 1) v1 M = (bif cmpB .ge v1 400 then some (rV, M) else (bI (tX M) fun z_6 M_5 => (bif cmpB .eq z_6 0 then some (rV, M_5) else (bV (RX M_5) fun M_8 => (bV (law_append 43 c M_8) fun M_11 => LX F (v1 + 1) M_11)))))) (tkW : TkW T n tX) (hn : n ≤ 400) {F : Nat} {v1 : Int} {C : MM} {p l q : Nat} (hv : I32 v1) (hq : q ≤ n) (hp : p ≤ n) : WQ T n (q : Int) C (LX (F + 1) v1 (tpT C p l (q : Int))) := by
  rw [eX, bq_ge hv (by decide)]
  by_cases g : (400 : Int) ≤ v1
  · rw [if_pos g]; exact WQ_ret hp
  · rw [if_neg g]
    exact tkW C p l q _ hq hp hn fun p1 h1 => WQ_eq0 (WQ_ret h1)
theorem loop_law (eX : ∀ F v1 M, LX (F + 1) v1 M = (bif cmpB .ge v1 400 then some (rV, M) else (bI (tX M) fun z_6 M_5 => (bif cmpB .eq z_6 0 then some (rV, M_5) else (bV (RX M_5) fun M_8 => (bV (law_append 43 c M_8) fun M_11 => LX F (v1 + 1) M_11)))))) (eY : ∀ F M, LY (F + 1) M = (bI (tY M) fun z_6 M_5 => (bif cmpB .eq z_6 0 then some (rI 1, M_5) else (bI (RY M_5) fun z_9 M_8 => (bif cmpB .ne z_9 0 then (bV (mo_emits x 0 M_8) fun M_11 => LY F M_11) else some (rI 0, M_8)))))) (tk : TkOK T n tX tY) (tkW : TkW T n tX) (hn : n ≤ 400) (hc : cdR c x 0) (ht : ty1 x (b :: b :: st) = some (b :: st)) (hR : RdOK T n a0 v (b :: st) (b :: b :: st) RX RY) : ∀ (r F G v1 p l e s d : Nat) (C N : MM), n - p ≤ r → r < F → r < G → v1 + 1 ≤ p → TC T n C → TN T n N → LwS C N a0 s (b :: st) v → s + d ≤ p → 1 ≤ d → p ≤ n → LpR n a0 v s d C N (b :: st) (LX F (v1 : Int) (tpT C p l (-1))) (LY G (nT N p e)) := by
  intro r
  induction r with
  | zero =>
    intro F G v1 p l e s d C N hr hF hG hv hC hN hS hd h1 hp
    obtain ⟨F, rfl⟩ : ∃ n, F = n + 1 := ⟨F - 1, by omega⟩
    obtain ⟨G, rfl⟩ : ∃ n, G = n + 1 := ⟨G - 1, by omega⟩
    obtain ⟨g, p', l', e', t1, t2, t3, t4⟩ := tk C N p l e hC hN hp
    rw [eX, eY, bq_ge (by omega) (by decide), if_neg (by omega), t1, t2, bz_eq0, bz_eq0]
    cases g with
    | true => rw [if_pos rfl] at t4; omega
    | false =>
      rw [cn_f, cn_f]
      rw [if_neg (by decide)] at t4
      exact Or.inl ⟨C, N, s, p', l', e', rfl, rfl, FrQ.rf, FrL.rf, hS, Nat.le_refl s, by omega, t3⟩
  | succ r ih =>
    intro F G v1 p l e s d C N hr hF hG hv hC hN hS hd h1 hp
    obtain ⟨F, rfl⟩ : ∃ n, F = n + 1 := ⟨F - 1, by omega⟩
    obtain ⟨G, rfl⟩ : ∃ n, G = n + 1 := ⟨G - 1, by omega⟩
    obtain ⟨g, p', l', e', t1, t2, t3, t4⟩ := tk C N p l e hC hN hp
    rw [eX, eY, bq_ge (by omega) (by decide), if_neg (by omega), t1, t2, bz_eq0, bz_eq0]
    cases g with
    | false =>
      rw [cn_f, cn_f]
      rw [if_neg (by decide)] at t4
      exact Or.inl ⟨C, N, s, p', l', e', rfl, rfl, FrQ.rf, FrL.rf, hS, Nat.le_refl s, by omega, t3⟩
    | true =>
      rw [cn_t, cn_t]
      rw [if_pos rfl] at t4
      refine LpR_bind hC (hR p' l' e' s (p' - s) C N hC hN hS (by omega) (by omega) t3) (fun N' => by show (bif cmpB .ne 0 0 then _ else _) = _; rw [bq_ne (by decide) (by decide), if_pos rfl]) (fun q C1 p1 l1 hq h1 => ?_) (fun C1 N1 s1 p1 l1 e1 hT1 f1 hs1 hS1 hd1 hp1 => ?_)
      · obtain ⟨F, rfl⟩ : ∃ n, F = n + 1 := ⟨F - 1, by omega⟩
        exact WQ_app fun C2 n2 f2 => loop_w eX tkW hn (by omega) hq h1
      · rw [bq_ne (by decide) (by decide), if_neg (by decide), app_b hS1.1 (by omega), emit_b hS1.2.1 (by omega)]
        refine LpR_fr (Nat.le_succ s1) (FrQ_ap (C := C1) (s := s1) (c := c)) (FrL_em (N := N1) (x := x) (y := 0) (Nat.le_refl s1)) ?_
        have := ih F G (v1 + 1) p1 l1 e1 (s1 + 1) d (aqC C1 s1 c) (emN N1 s1 x 0) (by omega) (by omega) (by omega) (by omega) ((FrT_ap (C := C1) (s := s1) (c := c)).t hT1) ((FrL_em (N := N1) (x := x) (y := 0) (Nat.le_refl s1)).t (f1.t hN)) (LwS_em hS1 hc ht) (by omega) h1 hp1
        exact this
theorem list_law (eX : ∀ F v1 M, LX (F + 1) v1 M = (bif cmpB .ge v1 400 then some (rV, M) else (bI (tX M) fun z_6 M_5 => (bif cmpB .eq z_6 0 then some (rV, M_5) else (bV (RX M_5) fun M_8 => (bV (law_append 43 c M_8) fun M_11 => LX F (v1 + 1) M_11)))))) (eY : ∀ F M, LY (F + 1) M = (bI (tY M) fun z_6 M_5 => (bif cmpB .eq z_6 0 then some (rI 1, M_5) else (bI (RY M_5) fun z_9 M_8 => (bif cmpB .ne z_9 0 then (bV (mo_emits x 0 M_8) fun M_11 => LY F M_11) else some (rI 0, M_8)))))) (tk : TkOK T n tX tY) (tkW : TkW T n tX) (hn : n ≤ 400) (hc : cdR c x 0) (ht : ty1 x (b :: b :: st) = some (b :: st)) (hR0 : RdOK T n a0 v st (b :: st) RX RY) (hR : RdOK T n a0 v (b :: st) (b :: b :: st) RX RY) : RdOK T n a0 v st (b :: st) (fun M => bV (RX M) fun M_2 => LX FU 0 M_2) (fun M => bI (RY M) fun z_3 M_2 => (bif cmpB .ne z_3 0 then LY FU M_2 else some (rI 0, M_2))) := by
  intro p l e s d C N hC hN hS hd h1 hp
  refine LpR_bind hC (hR0 p l e s d C N hC hN hS hd h1 hp) (fun N' => by show (bif cmpB .ne 0 0 then _ else _) = _; rw [bq_ne (by decide) (by decide), if_pos rfl]) (fun q C1 p1 l1 hq g1 => ?_) (fun C1 N1 s1 p1 l1 e1 hT1 f1 hs1 hS1 hd1 hp1 => ?_)
  · obtain ⟨F, hF⟩ := FU_s
    rw [hF]
    exact loop_w eX tkW hn (by decide) hq g1
  · rw [bq_ne (by decide) (by decide), if_neg (by decide)]
    exact loop_law eX eY tk tkW hn hc ht hR (n - p1) FU FU 0 p1 l1 e1 s1 d C1 N1 (Nat.le_refl _) (FU_gt (by omega)) (FU_gt (by omega)) (by omega) hT1 (f1.t hN) hS1 hd1 h1 hp1
end Lp
theorem law_sum {T : Nat → Int} {n a0 v : Nat} {st : List Bool} (hn : n ≤ 400) (hst : st.length + 2 ≤ 32) : RdOK T n a0 v st (false :: st) lawr_readSum mo_readSum := by
  have h : ∀ st' : List Bool, st'.length < 32 → RdOK T n a0 v st' (false :: st') lawr_readPart mo_readPart := fun st' hs p l e s d C N hC hN hS hd h1 hp => law_part hn hC hN hS hd h1 hp hs
  exact list_law (LX := lawr_readSum_L6 (fun M_13 => some (rV, M_13))) (LY := mo_readSum_L9 (fun M_13 => some (rI 1, M_13)) (fun M_15 => some (rI 0, M_15))) (tX := tape_tookMark 43) (tY := mo_isSign 43) (c := 1011) (x := 9) (fun F v1 M => rfl) (fun F M => rfl) (Tk_mark (by decide)) (TkW_mark (by decide)) hn (by unfold cdR; omega) rfl (h _ (by omega)) (h _ (by simp only [List.length_cons]; omega))
