/-! ===== WHAT IS SEARCHED depends on the row's first 1115 cells ===== -/
section Dn
variable {w w' : Nat → Int} {n : Nat}
theorem sPl_b (s : Nat) : 0 ≤ sPl s ∧ sPl s ≤ 15 := by
  have : fd s 5 4 < 2 ^ 4 := Nat.mod_lt _ (by decide)
  unfold sPl
  omega
theorem lrun_cg (h : ∀ k, k < 1115 → w' k = w k) {Tf : Int → Int} : ∀ m i st, i + m ≤ 400 → lrun w' Tf m i st = lrun w Tf m i st
  | 0, i, st, _ => rfl
  | m + 1, i, st, hi => by
    show lrun w' Tf m (i + 1) (lstep Tf (w' (315 + 2 * i)) (w' (316 + 2 * i)) st) = lrun w Tf m (i + 1) (lstep Tf (w (315 + 2 * i)) (w (316 + 2 * i)) st)
    rw [h _ (by omega), h _ (by omega), lrun_cg h m (i + 1) _ (by omega)]
theorem lHd_cg (h : ∀ k, k < 1115 → w' k = w k) {Tf : Int → Int} {l : Nat} (hl : l < 12) (hO : LnOK w l) : lHd w' Tf l = lHd w Tf l := by
  have e1 : lEn w' l = lEn w l := by unfold lEn; rw [h _ (by omega)]
  have e2 : lSt w' l = lSt w l := by unfold lSt; rw [h _ (by omega)]
  obtain ⟨-, ⟨b1, b2, b3⟩, -⟩ := hO
  have e3 : lSt w l ≤ lEn w l ∧ lEn w l ≤ 400 := by
    unfold lSt lEn
    omega
  unfold lHd
  rw [e1, e2, lrun_cg h _ _ _ (by omega)]
theorem lSum_cg (h : ∀ k, k < 1115 → w' k = w k) (hO : LwOK w) (Tf : Int → Int) (kd : Int) : lSum w' Tf kd = lSum w Tf kd := by
  unfold lSum
  rw [h 5 (by decide), h 266 (by decide)]
  by_cases g : w 5 = 1
  · obtain ⟨b1, b2⟩ := hO.2 g
    rw [if_pos g, if_pos g]
    refine fo_cg _ _ _ fun j a h1 h2 => ?_
    have hj : (j : Int) < w 266 := by omega
    rw [h _ (by omega), h _ (by omega), lHd_cg h (by omega) (b2 j hj)]
  · rw [if_neg g, if_neg g]
theorem eP (h : ∀ k, k < 1115 → w' k = w k) {p j : Int} (h0 : -1 ≤ p) (h1 : p ≤ 15) (j0 : 0 ≤ j) (j1 : j ≤ 7) : oP w' p j = oP w p j := h _ (by omega)
theorem eT (h : ∀ k, k < 1115 → w' k = w k) {p j : Int} (h0 : 0 ≤ p) (h1 : p ≤ 15) (j0 : 0 ≤ j) (j1 : j ≤ 7) : oT w' p j = oT w p j := h _ (by omega)
theorem eRr (h : ∀ k, k < 1115 → w' k = w k) {p j : Int} (h0 : 0 ≤ p) (h1 : p ≤ 16) (j0 : 0 ≤ j) (j1 : j ≤ 7) : oR w' p j = oR w p j := h _ (by omega)
theorem eB (h : ∀ k, k < 1115 → w' k = w k) {p j : Int} (h0 : 0 ≤ p) (h1 : p ≤ 16) (j0 : 0 ≤ j) (j1 : j ≤ 7) : oB w' p j = oB w p j := h _ (by omega)
theorem eE (h : ∀ k, k < 1115 → w' k = w k) {r p : Int} (h0 : 0 ≤ r) (h1 : r ≤ 16) : oE w' r p = oE w r p := by
  unfold oE
  rw [eRr h h0 h1 (by decide) (by decide), eRr h h0 h1 (by decide) (by decide)]
theorem wO_cg (h : ∀ k, k < 1115 → w' k = w k) (hC : WC n w) (s : Nat) : wO w' s = wO w s := by
  unfold wO
  rw [h 1 (by decide)]
  have := hC.2.1
  refine fo_cg _ _ _ fun j a h1 h2 => ?_
  rw [eT h (by omega) (by omega) (by decide) (by decide)]
theorem sCar_cg (h : ∀ k, k < 1115 → w' k = w k) (s : Nat) : sCar w' s = sCar w s := by
  unfold sCar
  rw [h 1 (by decide)]
theorem sTm_cg (h : ∀ k, k < 1115 → w' k = w k) (s : Nat) : sTm w' s = sTm w s := by
  unfold sTm
  rw [h 6 (by decide)]
theorem sTT_cg (h : ∀ k, k < 1115 → w' k = w k) (hC : WC n w) {s : Nat} {r : Int} (h0 : 0 ≤ r) (h1 : r ≤ 16) : sTT w' s r = sTT w s r := by
  funext k
  unfold sTT lTT
  rw [sTm_cg h, sCar_cg h, wO_cg h hC, eE h h0 h1]
theorem sHr_cg (h : ∀ k, k < 1115 → w' k = w k) (hC : WC n w) (hO : LwOK w) {s : Nat} {r : Int} (h0 : 0 ≤ r) (h1 : r ≤ 16) : sHr w' s r = sHr w s r := by
  unfold sHr
  rw [sTT_cg h hC h0 h1, lSum_cg h hO, eRr h h0 h1 (by decide) (by decide)]
theorem eatB_cg (h : ∀ k, k < 1115 → w' k = w k) {p t : Int} (h0 : -1 ≤ p) (h1 : p ≤ 15) : eatB w' p t = eatB w p t := by
  unfold eatB
  rw [eP h h0 h1 (by decide) (by decide), eP h h0 h1 (by decide) (by decide)]
theorem sCan_cg (h : ∀ k, k < 1115 → w' k = w k) (hC : WC n w) (hR : WR w) (hO : LwOK w) {s : Nat} {r : Int} (h0 : 0 ≤ r) (h1 : r < w 2) : sCan w' s r = sCan w s r := by
  have := hC.2.2.1
  have := hC.1
  have hb := oE_b hC hR h0 h1 (p := sPl s)
  have hp := sPl_b s
  unfold sCan sFreeway
  rw [sTT_cg h hC h0 (by omega), sHr_cg h hC hO h0 (by omega), lSum_cg h hO, sTm_cg h, eE h h0 (by omega), eatB_cg h (by omega) (by omega), eP h (by omega) hp.2 (by decide) (by decide)]
theorem sGo_cg (h : ∀ k, k < 1115 → w' k = w k) (hC : WC n w) (hR : WR w) (hO : LwOK w) {s : Nat} {r : Int} (h0 : 0 ≤ r) (h1 : r < w 2) : sGo w' s r = sGo w s r := by
  have := hC.2.2.1
  unfold sGo
  rw [sCan_cg h hC hR hO h0 h1, sHr_cg h hC hO h0 (by omega), eE h h0 (by omega)]
theorem sWt_cg (h : ∀ k, k < 1115 → w' k = w k) (s : Nat) : sWt w' s = sWt w s := by
  have hp := sPl_b s
  unfold sWt
  rw [eatB_cg h (by omega) hp.2, sTm_cg h]
theorem sPd_cg (h : ∀ k, k < 1115 → w' k = w k) (s t : Nat) : sPd w' s t = sPd w s t := by
  have hp := sPl_b s
  have e : sPd0 w' s t = sPd0 w s t := by
    unfold sPd0
    rw [eP h (by omega) hp.2 (by decide) (by decide)]
  unfold sPd
  rw [e, eP h (by omega) hp.2 (by decide) (by decide), sCar_cg h]
theorem sPy_cg (h : ∀ k, k < 1115 → w' k = w k) (s : Nat) {t : Nat} (ht : t ≤ 15) : sPy w' s t = sPy w s t := by
  have hp := sPl_b s
  have e : fitK w' (t : Int) (sPl s) = fitK w (t : Int) (sPl s) := by
    unfold fitK
    rw [eT h (by omega) (by omega) (by decide) (by decide), eP h (by omega) hp.2 (by decide) (by decide), eP h (by omega) hp.2 (by decide) (by decide)]
  unfold sPy
  rw [e, eP h (by omega) hp.2 (by decide) (by decide), sPd_cg h]
theorem sTk_cg (h : ∀ k, k < 1115 → w' k = w k) (s : Nat) {t : Nat} (ht : t ≤ 15) : sTk w' s t = sTk w s t := by
  unfold sTk
  rw [eT h (by omega) (by omega) (by decide) (by decide), sCar_cg h]
theorem sFr_cg (h : ∀ k, k < 1115 → w' k = w k) (hC : WC n w) (s : Nat) {b : Nat} (hb : b ≤ 15) : sFr w' s b = sFr w s b := by
  have h1 := hC.2.1
  have e : bset (w 1).toNat (sCf w' s b) = bset (w 1).toNat (sCf w s b) := bset_cg _ fun i hi => by
    unfold sCf fitR
    rw [eT h (by omega) (by omega) (by decide) (by decide), eB h (by omega) (by omega) (by decide) (by decide), eB h (by omega) (by omega) (by decide) (by decide)]
  unfold sFr
  rw [h 1 (by decide), e, eB h (by omega) (by omega) (by decide) (by decide)]
theorem Suc_cg (h : ∀ k, k < 1115 → w' k = w k) (hC : WC n w) (hR : WR w) (hO : LwOK w) (s u : Nat) : Suc w' s u ↔ Suc w s u := by
  have h1 := hC.2.1
  have h2 := hC.2.2.1
  have h3 := hC.2.2.2.1
  unfold Suc
  rw [sWt_cg h, h 1 (by decide), h 2 (by decide), h 3 (by decide)]
  refine or_congr Iff.rfl (or_congr ?_ (or_congr ?_ ?_))
  · exact exists_congr fun r => and_congr_right fun hr => by rw [sGo_cg h hC hR hO (by omega) hr]
  · exact exists_congr fun t => and_congr_right fun ht => by rw [sPy_cg h s (by omega), sTk_cg h s (by omega)]
  · exact exists_congr fun b => and_congr_right fun hb => by rw [sFr_cg h hC s (by omega)]
theorem nowS_cg (h : ∀ k, k < 1115 → w' k = w k) (hC : WC n w) : nowS w' = nowS w := by
  have h1 := hC.2.1
  have h2 : ∀ k, k < 266 → w' k = w k := fun k hk => h k (by omega)
  have e0 : now0 w' = now0 w := by
    unfold now0
    rw [h 7 (by decide), h 8 (by decide)]
  have e1 : now1 w' = now1 w := by
    unfold now1
    rw [e0, h 1 (by decide)]
    refine fo_cg _ _ _ fun j a g1 g2 => ?_
    unfold stF
    rw [eT h (by omega) (by omega) (by decide) (by decide)]
  unfold nowS
  rw [e1, bset_cg 10 (paB_cg hC h2), bset_cg 7 (frB_cg hC h2)]
theorem Rchn_cg (h : ∀ k, k < 1115 → w' k = w k) (hC : WC n w) (hR : WR w) (hO : LwOK w) : ∀ m s, Rchn w' m s ↔ Rchn w m s
  | 0, s => by
    show s = nowS w' ↔ s = nowS w
    rw [nowS_cg h hC]
  | m + 1, s => or_congr (Rchn_cg h hC hR hO m s) (exists_congr fun u => and_congr (Rchn_cg h hC hR hO m u) (Suc_cg h hC hR hO u s))
theorem Rch_cg (h : ∀ k, k < 1115 → w' k = w k) (hC : WC n w) (hR : WR w) (hO : LwOK w) (s : Nat) : Rch w' s ↔ Rch w s := exists_congr fun m => Rchn_cg h hC hR hO m s
theorem cpk_cg (h : ∀ k, k < 1115 → w' k = w k) (s : Nat) : cpk w' s = cpk w s := by
  unfold cpk
  refine bset_cg 61 fun i hi => ?_
  unfold cpB
  by_cases g1 : i < 10
  · rw [if_pos g1, if_pos g1]
  · by_cases g2 : i < 20
    · rw [if_neg g1, if_neg g1, if_pos g2, if_pos g2]
    · by_cases g3 : i < 30
      · rw [if_neg g1, if_neg g1, if_neg g2, if_neg g2, if_pos g3, if_pos g3, h 1 (by decide), eT h (by omega) (by omega) (by decide) (by decide)]
      · rw [if_neg g1, if_neg g1, if_neg g2, if_neg g2, if_neg g3, if_neg g3]
theorem Done_cg (h : ∀ k, k < 1115 → w' k = w k) (hC : WC n w) (hR : WR w) (hO : LwOK w) {M : MM} (H : Done w M) : Done w' M := by
  have r := Rch_cg h hC hR hO
  rcases H with ⟨h1, m, f, h2, ⟨a1, a2, a3, a4⟩, h3⟩ | ⟨h1, f, f1, f2⟩
  · exact Or.inl ⟨h1, m, f, h2, ⟨a1, fun i hi => (r _).mpr (a2 i hi), fun s hs => a3 s ((r s).mp hs), a4⟩, fun i hi => by rw [cpk_cg h]; exact h3 i hi⟩
  · exact Or.inr ⟨h1, f, fun i hi => (r _).mpr (f1 i hi), f2⟩
end Dn
