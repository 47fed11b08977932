/-! ===== THE CASES OF THE LOOP ===== -/
theorem lc_self (x : Int) : lCmp x x = 0 := by
  unfold lCmp lg_cmp
  rw [if_neg (fun g => Int64.lt_irrefl g), if_pos rfl]; decide
def opK (z_18 : Int) (K : MM → OR) (z_21 : Int) (M_20 : MM) : OR := (bI (mo_thrown M_20) fun z_24 M_23 => (bif cmpB .eq z_24 z_18 then (bif cmpB .ne z_18 0 then (K M_23) else (bif inB 0 1 then (bif cmpB .eq (lCmp (M_23 181 0) (w32 z_21)) 0 then (K M_23) else some (rI 0, M_23)) else none)) else some (rI 0, M_23)))
theorem case_op {D R : MM → OR} (h : OpOK D R) {k : Nat} {M : MM} (hk : k ≤ 511) (hI : Inv k M) {K : MM → OR} : ∃ M', Inv (k + 1) M' ∧ (bI (D M) fun z M1 => bI (R M1) fun z2 M2 => opK z K z2 M2) = K M' := by
  obtain ⟨c, z, M1, M2, h1, h2, h3, h4, h5, h6⟩ := h k M hk hI
  refine ⟨M2, h6, ?_⟩
  rw [h1, bI_I, h2, bI_I]
  unfold opK mo_thrown
  rw [bI_I, h3, bq_eq h4 h4, if_pos rfl, bq_ne h4 (by decide)]
  by_cases g : c = 0
  · obtain ⟨g1, g2⟩ := h5 g
    rw [if_pos g, bq_in (by decide) (by decide), g1, nw g2, lc_self, bq_eq (by decide) (by decide), if_pos rfl]
  · rw [if_neg g]
theorem case_op0 {D R : MM → OR} (h : OpOK0 D R) {k : Nat} {M : MM} (hk : k ≤ 511) (hI : Inv k M) {K : MM → OR} : ∃ M', Inv (k + 1) M' ∧ (bI (D M) fun z M1 => bI (R M1) fun z2 M2 => (bif cmpB .eq z z2 then (K M2) else some (rI 0, M2))) = K M' := by
  obtain ⟨z, M1, M2, h1, h2, h3, h4⟩ := h k M hk hI
  refine ⟨M2, h4, ?_⟩
  rw [h1, bI_I, h2, bI_I, bq_eq h3 h3, if_pos rfl]
theorem case_opv {D R : MM → OR} (h : OpOKv D R) {k : Nat} {M : MM} (hk : k ≤ 511) (hI : Inv k M) {K : MM → OR} : ∃ M', Inv (k + 1) M' ∧ (bV (D M) fun M1 => bV (R M1) fun M2 => K M2) = K M' := by
  obtain ⟨M1, M2, h1, h2, h3⟩ := h k M hk hI
  refine ⟨M2, h3, ?_⟩
  rw [h1, bV_V, h2, bV_V]
theorem case_opB {D R : MM → OR} (h : OpOKB D R) {k : Nat} {M : MM} (hk : k ≤ 511) (hI : Inv k M) {K : MM → OR} : ∃ M', Inv (k + 1) M' ∧ (bI (D M) fun z M1 => bI (R M1) fun z_108 M2 => (bI (mo_thrown M2) fun z_111 M_110 => (bif cmpB .eq z_111 z then (bif cmpB .ne z 0 then (K M_110) else (bif inB 0 1 then (bif cmpB .eq z_108 0 then (bif cmpB .eq (lCmp (M_110 181 0) 0) 0 then (K M_110) else some (rI 0, M_110)) else (bif cmpB .eq (lCmp (M_110 181 0) 1) 0 then (K M_110) else some (rI 0, M_110))) else none)) else some (rI 0, M_110)))) = K M' := by
  obtain ⟨c, z, M1, M2, h1, h2, h3, h4, h5, h6⟩ := h k M hk hI
  refine ⟨M2, h6, ?_⟩
  rw [h1, bI_I, h2, bI_I]
  unfold mo_thrown
  rw [bI_I, h3, bq_eq h4 h4, if_pos rfl, bq_ne h4 (by decide)]
  by_cases g : c = 0
  · obtain ⟨g1, g2⟩ := h5 g
    rw [if_pos g, bq_in (by decide) (by decide), g1]
    rcases g2 with rfl | rfl
    · rw [bq_eq (by decide) (by decide), if_pos rfl, lc_self, bq_eq (by decide) (by decide), if_pos rfl]
    · rw [bq_eq (by decide) (by decide), if_neg (by decide), lc_self, bq_eq (by decide) (by decide), if_pos rfl]
  · rw [if_neg g]
section Cases
variable {Z : Nat × (Nat → Int)} {k : Nat} {M : MM} {Kb : Int → MM → OR}
theorem case_0 (hZ : Z.1 ≤ 3072) (hf : ∀ j, I32 (Z.2 j)) (hk : 6 * k + 6 ≤ Z.1) (hI : Inv k M) : ∃ M', Inv (k + 1) M' ∧ caseJ Z Kb ((6 * k : Nat) : Int) M 0 = Kb (((6 * k : Nat) : Int) + 6) M' := by
  have g1 : inB (((6 * k : Nat) : Int) + 1) Z.1 = true := inB_t (by omega) (by omega)
  have g2 : inB (((6 * k : Nat) : Int) + 2) Z.1 = true := inB_t (by omega) (by omega)
  have g3 : inB (((6 * k : Nat) : Int) + 3) Z.1 = true := inB_t (by omega) (by omega)
  have g4 : inB (((6 * k : Nat) : Int) + 4) Z.1 = true := inB_t (by omega) (by omega)
  have g5 : inB (((6 * k : Nat) : Int) + 5) Z.1 = true := inB_t (by omega) (by omega)
  show ∃ M', Inv (k + 1) M' ∧ drv_main_J208 Z Kb _ M = _
  unfold drv_main_J208
  rw [g1, g2, g3, g4, g5]
  exact case_op0 (ok_feed ) (by omega) hI (K := Kb (((6 * k : Nat) : Int) + 6))
theorem case_1 (hZ : Z.1 ≤ 3072) (hf : ∀ j, I32 (Z.2 j)) (hk : 6 * k + 6 ≤ Z.1) (hI : Inv k M) : ∃ M', Inv (k + 1) M' ∧ caseJ Z Kb ((6 * k : Nat) : Int) M 1 = Kb (((6 * k : Nat) : Int) + 6) M' := by
  have g1 : inB (((6 * k : Nat) : Int) + 1) Z.1 = true := inB_t (by omega) (by omega)
  show ∃ M', Inv (k + 1) M' ∧ drv_main_J281 Z Kb _ M = _
  unfold drv_main_J281
  rw [g1]
  exact case_op0 (ok_end (hf _)) (by omega) hI (K := Kb (((6 * k : Nat) : Int) + 6))
theorem case_2 (hZ : Z.1 ≤ 3072) (hf : ∀ j, I32 (Z.2 j)) (hk : 6 * k + 6 ≤ Z.1) (hI : Inv k M) : ∃ M', Inv (k + 1) M' ∧ caseJ Z Kb ((6 * k : Nat) : Int) M 2 = Kb (((6 * k : Nat) : Int) + 6) M' := by
  show ∃ M', Inv (k + 1) M' ∧ drv_main_J306 Z Kb _ M = _
  unfold drv_main_J306
  exact case_op (ok_tale ) (by omega) hI (K := Kb (((6 * k : Nat) : Int) + 6))
theorem case_3 (hZ : Z.1 ≤ 3072) (hf : ∀ j, I32 (Z.2 j)) (hk : 6 * k + 6 ≤ Z.1) (hI : Inv k M) : ∃ M', Inv (k + 1) M' ∧ caseJ Z Kb ((6 * k : Nat) : Int) M 3 = Kb (((6 * k : Nat) : Int) + 6) M' := by
  show ∃ M', Inv (k + 1) M' ∧ drv_main_J350 Z Kb _ M = _
  unfold drv_main_J350
  exact case_op (ok_law ) (by omega) hI (K := Kb (((6 * k : Nat) : Int) + 6))
theorem case_4 (hZ : Z.1 ≤ 3072) (hf : ∀ j, I32 (Z.2 j)) (hk : 6 * k + 6 ≤ Z.1) (hI : Inv k M) : ∃ M', Inv (k + 1) M' ∧ caseJ Z Kb ((6 * k : Nat) : Int) M 4 = Kb (((6 * k : Nat) : Int) + 6) M' := by
  show ∃ M', Inv (k + 1) M' ∧ drv_main_J394 Z Kb _ M = _
  unfold drv_main_J394
  exact case_op0 (ok_fault ) (by omega) hI (K := Kb (((6 * k : Nat) : Int) + 6))
theorem case_5 (hZ : Z.1 ≤ 3072) (hf : ∀ j, I32 (Z.2 j)) (hk : 6 * k + 6 ≤ Z.1) (hI : Inv k M) : ∃ M', Inv (k + 1) M' ∧ caseJ Z Kb ((6 * k : Nat) : Int) M 5 = Kb (((6 * k : Nat) : Int) + 6) M' := by
  have g1 : inB (((6 * k : Nat) : Int) + 1) Z.1 = true := inB_t (by omega) (by omega)
  have g2 : inB (((6 * k : Nat) : Int) + 2) Z.1 = true := inB_t (by omega) (by omega)
  show ∃ M', Inv (k + 1) M' ∧ drv_main_J407 Z Kb _ M = _
  unfold drv_main_J407
  rw [g1, g2]
  exact case_op (ok_place (hf _) (hf _)) (by omega) hI (K := Kb (((6 * k : Nat) : Int) + 6))
theorem case_6 (hZ : Z.1 ≤ 3072) (hf : ∀ j, I32 (Z.2 j)) (hk : 6 * k + 6 ≤ Z.1) (hI : Inv k M) : ∃ M', Inv (k + 1) M' ∧ caseJ Z Kb ((6 * k : Nat) : Int) M 6 = Kb (((6 * k : Nat) : Int) + 6) M' := by
  have g1 : inB (((6 * k : Nat) : Int) + 1) Z.1 = true := inB_t (by omega) (by omega)
  have g2 : inB (((6 * k : Nat) : Int) + 2) Z.1 = true := inB_t (by omega) (by omega)
  show ∃ M', Inv (k + 1) M' ∧ drv_main_J475 Z Kb _ M = _
  unfold drv_main_J475
  rw [g1, g2]
  exact case_op (ok_thing (hf _) (hf _)) (by omega) hI (K := Kb (((6 * k : Nat) : Int) + 6))
theorem case_7 (hZ : Z.1 ≤ 3072) (hf : ∀ j, I32 (Z.2 j)) (hk : 6 * k + 6 ≤ Z.1) (hI : Inv k M) : ∃ M', Inv (k + 1) M' ∧ caseJ Z Kb ((6 * k : Nat) : Int) M 7 = Kb (((6 * k : Nat) : Int) + 6) M' := by
  have g1 : inB (((6 * k : Nat) : Int) + 1) Z.1 = true := inB_t (by omega) (by omega)
  have g2 : inB (((6 * k : Nat) : Int) + 2) Z.1 = true := inB_t (by omega) (by omega)
  show ∃ M', Inv (k + 1) M' ∧ drv_main_J543 Z Kb _ M = _
  unfold drv_main_J543
  rw [g1, g2]
  exact case_op (ok_road (hf _) (hf _)) (by omega) hI (K := Kb (((6 * k : Nat) : Int) + 6))
theorem case_8 (hZ : Z.1 ≤ 3072) (hf : ∀ j, I32 (Z.2 j)) (hk : 6 * k + 6 ≤ Z.1) (hI : Inv k M) : ∃ M', Inv (k + 1) M' ∧ caseJ Z Kb ((6 * k : Nat) : Int) M 8 = Kb (((6 * k : Nat) : Int) + 6) M' := by
  have g1 : inB (((6 * k : Nat) : Int) + 1) Z.1 = true := inB_t (by omega) (by omega)
  have g2 : inB (((6 * k : Nat) : Int) + 2) Z.1 = true := inB_t (by omega) (by omega)
  show ∃ M', Inv (k + 1) M' ∧ drv_main_J611 Z Kb _ M = _
  unfold drv_main_J611
  rw [g1, g2]
  exact case_op (ok_brother (hf _) (hf _)) (by omega) hI (K := Kb (((6 * k : Nat) : Int) + 6))
theorem case_9 (hZ : Z.1 ≤ 3072) (hf : ∀ j, I32 (Z.2 j)) (hk : 6 * k + 6 ≤ Z.1) (hI : Inv k M) : ∃ M', Inv (k + 1) M' ∧ caseJ Z Kb ((6 * k : Nat) : Int) M 9 = Kb (((6 * k : Nat) : Int) + 6) M' := by
  have g1 : inB (((6 * k : Nat) : Int) + 1) Z.1 = true := inB_t (by omega) (by omega)
  show ∃ M', Inv (k + 1) M' ∧ drv_main_J679 Z Kb _ M = _
  unfold drv_main_J679
  rw [g1]
  exact case_op (ok_girl (hf _)) (by omega) hI (K := Kb (((6 * k : Nat) : Int) + 6))
theorem case_10 (hZ : Z.1 ≤ 3072) (hf : ∀ j, I32 (Z.2 j)) (hk : 6 * k + 6 ≤ Z.1) (hI : Inv k M) : ∃ M', Inv (k + 1) M' ∧ caseJ Z Kb ((6 * k : Nat) : Int) M 10 = Kb (((6 * k : Nat) : Int) + 6) M' := by
  have g1 : inB (((6 * k : Nat) : Int) + 1) Z.1 = true := inB_t (by omega) (by omega)
  have g2 : inB (((6 * k : Nat) : Int) + 2) Z.1 = true := inB_t (by omega) (by omega)
  show ∃ M', Inv (k + 1) M' ∧ drv_main_J735 Z Kb _ M = _
  unfold drv_main_J735
  rw [g1, g2]
  exact case_op (ok_rule (hf _) (hf _)) (by omega) hI (K := Kb (((6 * k : Nat) : Int) + 6))
theorem case_11 (hZ : Z.1 ≤ 3072) (hf : ∀ j, I32 (Z.2 j)) (hk : 6 * k + 6 ≤ Z.1) (hI : Inv k M) : ∃ M', Inv (k + 1) M' ∧ caseJ Z Kb ((6 * k : Nat) : Int) M 11 = Kb (((6 * k : Nat) : Int) + 6) M' := by
  have g1 : inB (((6 * k : Nat) : Int) + 1) Z.1 = true := inB_t (by omega) (by omega)
  have g2 : inB (((6 * k : Nat) : Int) + 2) Z.1 = true := inB_t (by omega) (by omega)
  show ∃ M', Inv (k + 1) M' ∧ drv_main_J803 Z Kb _ M = _
  unfold drv_main_J803
  rw [g1, g2]
  exact case_opB (ok_fitsB (hf _) (hf _)) (by omega) hI (K := Kb (((6 * k : Nat) : Int) + 6))
theorem case_12 (hZ : Z.1 ≤ 3072) (hf : ∀ j, I32 (Z.2 j)) (hk : 6 * k + 6 ≤ Z.1) (hI : Inv k M) : ∃ M', Inv (k + 1) M' ∧ caseJ Z Kb ((6 * k : Nat) : Int) M 12 = Kb (((6 * k : Nat) : Int) + 6) M' := by
  have g1 : inB (((6 * k : Nat) : Int) + 1) Z.1 = true := inB_t (by omega) (by omega)
  show ∃ M', Inv (k + 1) M' ∧ drv_main_J878 Z Kb _ M = _
  unfold drv_main_J878
  rw [g1]
  exact case_op (ok_go (hf _)) (by omega) hI (K := Kb (((6 * k : Nat) : Int) + 6))
theorem case_13 (hZ : Z.1 ≤ 3072) (hf : ∀ j, I32 (Z.2 j)) (hk : 6 * k + 6 ≤ Z.1) (hI : Inv k M) : ∃ M', Inv (k + 1) M' ∧ caseJ Z Kb ((6 * k : Nat) : Int) M 13 = Kb (((6 * k : Nat) : Int) + 6) M' := by
  have g1 : inB (((6 * k : Nat) : Int) + 1) Z.1 = true := inB_t (by omega) (by omega)
  show ∃ M', Inv (k + 1) M' ∧ drv_main_J934 Z Kb _ M = _
  unfold drv_main_J934
  rw [g1]
  exact case_op (ok_delay (hf _)) (by omega) hI (K := Kb (((6 * k : Nat) : Int) + 6))
theorem case_14 (hZ : Z.1 ≤ 3072) (hf : ∀ j, I32 (Z.2 j)) (hk : 6 * k + 6 ≤ Z.1) (hI : Inv k M) : ∃ M', Inv (k + 1) M' ∧ caseJ Z Kb ((6 * k : Nat) : Int) M 14 = Kb (((6 * k : Nat) : Int) + 6) M' := by
  have g1 : inB (((6 * k : Nat) : Int) + 1) Z.1 = true := inB_t (by omega) (by omega)
  show ∃ M', Inv (k + 1) M' ∧ drv_main_J990 Z Kb _ M = _
  unfold drv_main_J990
  rw [g1]
  exact case_op (ok_pay (hf _)) (by omega) hI (K := Kb (((6 * k : Nat) : Int) + 6))
theorem case_15 (hZ : Z.1 ≤ 3072) (hf : ∀ j, I32 (Z.2 j)) (hk : 6 * k + 6 ≤ Z.1) (hI : Inv k M) : ∃ M', Inv (k + 1) M' ∧ caseJ Z Kb ((6 * k : Nat) : Int) M 15 = Kb (((6 * k : Nat) : Int) + 6) M' := by
  have g1 : inB (((6 * k : Nat) : Int) + 1) Z.1 = true := inB_t (by omega) (by omega)
  show ∃ M', Inv (k + 1) M' ∧ drv_main_J1046 Z Kb _ M = _
  unfold drv_main_J1046
  rw [g1]
  exact case_op (ok_take (hf _)) (by omega) hI (K := Kb (((6 * k : Nat) : Int) + 6))
theorem case_16 (hZ : Z.1 ≤ 3072) (hf : ∀ j, I32 (Z.2 j)) (hk : 6 * k + 6 ≤ Z.1) (hI : Inv k M) : ∃ M', Inv (k + 1) M' ∧ caseJ Z Kb ((6 * k : Nat) : Int) M 16 = Kb (((6 * k : Nat) : Int) + 6) M' := by
  have g1 : inB (((6 * k : Nat) : Int) + 1) Z.1 = true := inB_t (by omega) (by omega)
  show ∃ M', Inv (k + 1) M' ∧ drv_main_J1102 Z Kb _ M = _
  unfold drv_main_J1102
  rw [g1]
  exact case_op (ok_lay (hf _)) (by omega) hI (K := Kb (((6 * k : Nat) : Int) + 6))
theorem case_17 (hZ : Z.1 ≤ 3072) (hf : ∀ j, I32 (Z.2 j)) (hk : 6 * k + 6 ≤ Z.1) (hI : Inv k M) : ∃ M', Inv (k + 1) M' ∧ caseJ Z Kb ((6 * k : Nat) : Int) M 17 = Kb (((6 * k : Nat) : Int) + 6) M' := by
  have g1 : inB (((6 * k : Nat) : Int) + 1) Z.1 = true := inB_t (by omega) (by omega)
  show ∃ M', Inv (k + 1) M' ∧ drv_main_J1158 Z Kb _ M = _
  unfold drv_main_J1158
  rw [g1]
  exact case_op (ok_free (hf _)) (by omega) hI (K := Kb (((6 * k : Nat) : Int) + 6))
theorem case_18 (hZ : Z.1 ≤ 3072) (hf : ∀ j, I32 (Z.2 j)) (hk : 6 * k + 6 ≤ Z.1) (hI : Inv k M) : ∃ M', Inv (k + 1) M' ∧ caseJ Z Kb ((6 * k : Nat) : Int) M 18 = Kb (((6 * k : Nat) : Int) + 6) M' := by
  have g1 : inB (((6 * k : Nat) : Int) + 1) Z.1 = true := inB_t (by omega) (by omega)
  show ∃ M', Inv (k + 1) M' ∧ drv_main_J1214 Z Kb _ M = _
  unfold drv_main_J1214
  rw [g1]
  exact case_op (ok_soonest ) (by omega) hI (K := Kb (((6 * k : Nat) : Int) + 6))
theorem case_19 (hZ : Z.1 ≤ 3072) (hf : ∀ j, I32 (Z.2 j)) (hk : 6 * k + 6 ≤ Z.1) (hI : Inv k M) : ∃ M', Inv (k + 1) M' ∧ caseJ Z Kb ((6 * k : Nat) : Int) M 19 = Kb (((6 * k : Nat) : Int) + 6) M' := by
  have g1 : inB (((6 * k : Nat) : Int) + 1) Z.1 = true := inB_t (by omega) (by omega)
  show ∃ M', Inv (k + 1) M' ∧ drv_main_J1270 Z Kb _ M = _
  unfold drv_main_J1270
  rw [g1]
  exact case_op (ok_reached (hf _)) (by omega) hI (K := Kb (((6 * k : Nat) : Int) + 6))
theorem case_20 (hZ : Z.1 ≤ 3072) (hf : ∀ j, I32 (Z.2 j)) (hk : 6 * k + 6 ≤ Z.1) (hI : Inv k M) : ∃ M', Inv (k + 1) M' ∧ caseJ Z Kb ((6 * k : Nat) : Int) M 20 = Kb (((6 * k : Nat) : Int) + 6) M' := by
  have g1 : inB (((6 * k : Nat) : Int) + 1) Z.1 = true := inB_t (by omega) (by omega)
  show ∃ M', Inv (k + 1) M' ∧ drv_main_J1326 Z Kb _ M = _
  unfold drv_main_J1326
  rw [g1]
  exact case_op (ok_spared ) (by omega) hI (K := Kb (((6 * k : Nat) : Int) + 6))
theorem case_21 (hZ : Z.1 ≤ 3072) (hf : ∀ j, I32 (Z.2 j)) (hk : 6 * k + 6 ≤ Z.1) (hI : Inv k M) : ∃ M', Inv (k + 1) M' ∧ caseJ Z Kb ((6 * k : Nat) : Int) M 21 = Kb (((6 * k : Nat) : Int) + 6) M' := by
  have g1 : inB (((6 * k : Nat) : Int) + 1) Z.1 = true := inB_t (by omega) (by omega)
  show ∃ M', Inv (k + 1) M' ∧ drv_main_J1382 Z Kb _ M = _
  unfold drv_main_J1382 drv_main_J1397 drv_main_J1418
  cases hc : cmpB .eq (Z.2 ((((6 * k : Nat) : Int) + 1)).toNat) 0 with
  | true =>
    rw [g1]
    exact case_op (ok_locked (Or.inl rfl)) (by omega) hI (K := Kb (((6 * k : Nat) : Int) + 6))
  | false =>
    rw [g1]
    exact case_op (ok_locked (Or.inr rfl)) (by omega) hI (K := Kb (((6 * k : Nat) : Int) + 6))
theorem case_22 (hZ : Z.1 ≤ 3072) (hf : ∀ j, I32 (Z.2 j)) (hk : 6 * k + 6 ≤ Z.1) (hI : Inv k M) : ∃ M', Inv (k + 1) M' ∧ caseJ Z Kb ((6 * k : Nat) : Int) M 22 = Kb (((6 * k : Nat) : Int) + 6) M' := by
  have g1 : inB (((6 * k : Nat) : Int) + 1) Z.1 = true := inB_t (by omega) (by omega)
  have g2 : inB (((6 * k : Nat) : Int) + 2) Z.1 = true := inB_t (by omega) (by omega)
  show ∃ M', Inv (k + 1) M' ∧ drv_main_J1454 Z Kb _ M = _
  unfold drv_main_J1454 drv_main_J1475 drv_main_J1502
  cases hc : cmpB .eq (Z.2 ((((6 * k : Nat) : Int) + 2)).toNat) 0 with
  | true =>
    rw [g1, g2]
    exact case_op (ok_stands (hf _) (Or.inl rfl)) (by omega) hI (K := Kb (((6 * k : Nat) : Int) + 6))
  | false =>
    rw [g1, g2]
    exact case_op (ok_stands (hf _) (Or.inr rfl)) (by omega) hI (K := Kb (((6 * k : Nat) : Int) + 6))
theorem case_23 (hZ : Z.1 ≤ 3072) (hf : ∀ j, I32 (Z.2 j)) (hk : 6 * k + 6 ≤ Z.1) (hI : Inv k M) : ∃ M', Inv (k + 1) M' ∧ caseJ Z Kb ((6 * k : Nat) : Int) M 23 = Kb (((6 * k : Nat) : Int) + 6) M' := by
  show ∃ M', Inv (k + 1) M' ∧ drv_main_J1538 Z Kb _ M = _
  unfold drv_main_J1538
  exact case_op0 (ok_needed ) (by omega) hI (K := Kb (((6 * k : Nat) : Int) + 6))
theorem case_24 (hZ : Z.1 ≤ 3072) (hf : ∀ j, I32 (Z.2 j)) (hk : 6 * k + 6 ≤ Z.1) (hI : Inv k M) : ∃ M', Inv (k + 1) M' ∧ caseJ Z Kb ((6 * k : Nat) : Int) M 24 = Kb (((6 * k : Nat) : Int) + 6) M' := by
  have g1 : inB (((6 * k : Nat) : Int) + 1) Z.1 = true := inB_t (by omega) (by omega)
  have g2 : inB (((6 * k : Nat) : Int) + 2) Z.1 = true := inB_t (by omega) (by omega)
  show ∃ M', Inv (k + 1) M' ∧ drv_main_J1551 Z Kb _ M = _
  unfold drv_main_J1551
  rw [g1, g2]
  exact case_op (ok_far (hf _) (hf _)) (by omega) hI (K := Kb (((6 * k : Nat) : Int) + 6))
theorem case_25 (hZ : Z.1 ≤ 3072) (hf : ∀ j, I32 (Z.2 j)) (hk : 6 * k + 6 ≤ Z.1) (hI : Inv k M) : ∃ M', Inv (k + 1) M' ∧ caseJ Z Kb ((6 * k : Nat) : Int) M 25 = Kb (((6 * k : Nat) : Int) + 6) M' := by
  have g1 : inB (((6 * k : Nat) : Int) + 1) Z.1 = true := inB_t (by omega) (by omega)
  show ∃ M', Inv (k + 1) M' ∧ drv_main_J1619 Z Kb _ M = _
  unfold drv_main_J1619
  rw [g1]
  exact case_op (ok_turnBack (hf _)) (by omega) hI (K := Kb (((6 * k : Nat) : Int) + 6))
theorem case_26 (hZ : Z.1 ≤ 3072) (hf : ∀ j, I32 (Z.2 j)) (hk : 6 * k + 6 ≤ Z.1) (hI : Inv k M) : ∃ M', Inv (k + 1) M' ∧ caseJ Z Kb ((6 * k : Nat) : Int) M 26 = Kb (((6 * k : Nat) : Int) + 6) M' := by
  have g1 : inB (((6 * k : Nat) : Int) + 1) Z.1 = true := inB_t (by omega) (by omega)
  have g2 : inB (((6 * k : Nat) : Int) + 2) Z.1 = true := inB_t (by omega) (by omega)
  have g3 : inB (((6 * k : Nat) : Int) + 3) Z.1 = true := inB_t (by omega) (by omega)
  show ∃ M', Inv (k + 1) M' ∧ drv_main_J1675 Z Kb _ M = _
  unfold drv_main_J1675 drv_main_J1702 drv_main_J1735
  cases hc : cmpB .eq (Z.2 ((((6 * k : Nat) : Int) + 3)).toNat) 0 with
  | true =>
    rw [g1, g2, g3]
    exact case_op (ok_meet (hf _) (hf _) (Or.inl rfl)) (by omega) hI (K := Kb (((6 * k : Nat) : Int) + 6))
  | false =>
    rw [g1, g2, g3]
    exact case_op (ok_meet (hf _) (hf _) (Or.inr rfl)) (by omega) hI (K := Kb (((6 * k : Nat) : Int) + 6))
theorem case_27 (hZ : Z.1 ≤ 3072) (hf : ∀ j, I32 (Z.2 j)) (hk : 6 * k + 6 ≤ Z.1) (hI : Inv k M) : ∃ M', Inv (k + 1) M' ∧ caseJ Z Kb ((6 * k : Nat) : Int) M 27 = Kb (((6 * k : Nat) : Int) + 6) M' := by
  have g1 : inB (((6 * k : Nat) : Int) + 1) Z.1 = true := inB_t (by omega) (by omega)
  have g2 : inB (((6 * k : Nat) : Int) + 2) Z.1 = true := inB_t (by omega) (by omega)
  show ∃ M', Inv (k + 1) M' ∧ drv_main_J1771 Z Kb _ M = _
  unfold drv_main_J1771
  rw [g1, g2]
  exact case_op (ok_surest (hf _) (hf _)) (by omega) hI (K := Kb (((6 * k : Nat) : Int) + 6))
theorem case_28 (hZ : Z.1 ≤ 3072) (hf : ∀ j, I32 (Z.2 j)) (hk : 6 * k + 6 ≤ Z.1) (hI : Inv k M) : ∃ M', Inv (k + 1) M' ∧ caseJ Z Kb ((6 * k : Nat) : Int) M 28 = Kb (((6 * k : Nat) : Int) + 6) M' := by
  have g1 : inB (((6 * k : Nat) : Int) + 1) Z.1 = true := inB_t (by omega) (by omega)
  show ∃ M', Inv (k + 1) M' ∧ drv_main_J1839 Z Kb _ M = _
  unfold drv_main_J1839
  rw [g1]
  exact case_op0 (ok_gate (hf _)) (by omega) hI (K := Kb (((6 * k : Nat) : Int) + 6))
theorem case_29 (hZ : Z.1 ≤ 3072) (hf : ∀ j, I32 (Z.2 j)) (hk : 6 * k + 6 ≤ Z.1) (hI : Inv k M) : ∃ M', Inv (k + 1) M' ∧ caseJ Z Kb ((6 * k : Nat) : Int) M 29 = Kb (((6 * k : Nat) : Int) + 6) M' := by
  have g1 : inB (((6 * k : Nat) : Int) + 1) Z.1 = true := inB_t (by omega) (by omega)
  show ∃ M', Inv (k + 1) M' ∧ drv_main_J1864 Z Kb _ M = _
  unfold drv_main_J1864
  rw [g1]
  exact case_op (ok_plates (hf _)) (by omega) hI (K := Kb (((6 * k : Nat) : Int) + 6))
theorem case_30 (hZ : Z.1 ≤ 3072) (hf : ∀ j, I32 (Z.2 j)) (hk : 6 * k + 6 ≤ Z.1) (hI : Inv k M) : ∃ M', Inv (k + 1) M' ∧ caseJ Z Kb ((6 * k : Nat) : Int) M 30 = Kb (((6 * k : Nat) : Int) + 6) M' := by
  have g1 : inB (((6 * k : Nat) : Int) + 1) Z.1 = true := inB_t (by omega) (by omega)
  show ∃ M', Inv (k + 1) M' ∧ drv_main_J1920 Z Kb _ M = _
  unfold drv_main_J1920 drv_main_J1935 drv_main_J1956
  cases hc : cmpB .eq (Z.2 ((((6 * k : Nat) : Int) + 1)).toNat) 0 with
  | true =>
    rw [g1]
    exact case_op (ok_locks (Or.inl rfl)) (by omega) hI (K := Kb (((6 * k : Nat) : Int) + 6))
  | false =>
    rw [g1]
    exact case_op (ok_locks (Or.inr rfl)) (by omega) hI (K := Kb (((6 * k : Nat) : Int) + 6))
theorem case_31 (hZ : Z.1 ≤ 3072) (hf : ∀ j, I32 (Z.2 j)) (hk : 6 * k + 6 ≤ Z.1) (hI : Inv k M) : ∃ M', Inv (k + 1) M' ∧ caseJ Z Kb ((6 * k : Nat) : Int) M 31 = Kb (((6 * k : Nat) : Int) + 6) M' := by
  have g1 : inB (((6 * k : Nat) : Int) + 1) Z.1 = true := inB_t (by omega) (by omega)
  have g2 : inB (((6 * k : Nat) : Int) + 2) Z.1 = true := inB_t (by omega) (by omega)
  have g3 : inB (((6 * k : Nat) : Int) + 3) Z.1 = true := inB_t (by omega) (by omega)
  have g4 : inB (((6 * k : Nat) : Int) + 4) Z.1 = true := inB_t (by omega) (by omega)
  have g5 : inB (((6 * k : Nat) : Int) + 5) Z.1 = true := inB_t (by omega) (by omega)
  show ∃ M', Inv (k + 1) M' ∧ drv_main_J1992 Z Kb _ M = _
  unfold drv_main_J1992 drv_main_J2041 drv_main_J2096
  cases hc : cmpB .eq (Z.2 ((((6 * k : Nat) : Int) + 5)).toNat) 0 with
  | true =>
    rw [g1, g2, g3, g4, g5]
    exact case_op (ok_shirts (hf _) (hf _) (Or.inl rfl)) (by omega) hI (K := Kb (((6 * k : Nat) : Int) + 6))
  | false =>
    rw [g1, g2, g3, g4, g5]
    exact case_op (ok_shirts (hf _) (hf _) (Or.inr rfl)) (by omega) hI (K := Kb (((6 * k : Nat) : Int) + 6))
theorem case_32 (hZ : Z.1 ≤ 3072) (hf : ∀ j, I32 (Z.2 j)) (hk : 6 * k + 6 ≤ Z.1) (hI : Inv k M) : ∃ M', Inv (k + 1) M' ∧ caseJ Z Kb ((6 * k : Nat) : Int) M 32 = Kb (((6 * k : Nat) : Int) + 6) M' := by
  have g1 : inB (((6 * k : Nat) : Int) + 1) Z.1 = true := inB_t (by omega) (by omega)
  show ∃ M', Inv (k + 1) M' ∧ drv_main_J2132 Z Kb _ M = _
  unfold drv_main_J2132
  rw [g1]
  exact case_op (ok_sign (hf _)) (by omega) hI (K := Kb (((6 * k : Nat) : Int) + 6))
theorem case_33 (hZ : Z.1 ≤ 3072) (hf : ∀ j, I32 (Z.2 j)) (hk : 6 * k + 6 ≤ Z.1) (hI : Inv k M) : ∃ M', Inv (k + 1) M' ∧ caseJ Z Kb ((6 * k : Nat) : Int) M 33 = Kb (((6 * k : Nat) : Int) + 6) M' := by
  have g1 : inB (((6 * k : Nat) : Int) + 1) Z.1 = true := inB_t (by omega) (by omega)
  have g2 : inB (((6 * k : Nat) : Int) + 2) Z.1 = true := inB_t (by omega) (by omega)
  show ∃ M', Inv (k + 1) M' ∧ drv_main_J2188 Z Kb _ M = _
  unfold drv_main_J2188
  rw [g1, g2]
  exact case_op (ok_log (hf _) (hf _)) (by omega) hI (K := Kb (((6 * k : Nat) : Int) + 6))
theorem case_34 (hZ : Z.1 ≤ 3072) (hf : ∀ j, I32 (Z.2 j)) (hk : 6 * k + 6 ≤ Z.1) (hI : Inv k M) : ∃ M', Inv (k + 1) M' ∧ caseJ Z Kb ((6 * k : Nat) : Int) M 34 = Kb (((6 * k : Nat) : Int) + 6) M' := by
  show ∃ M', Inv (k + 1) M' ∧ drv_main_J2256 Z Kb _ M = _
  unfold drv_main_J2256
  exact case_op0 (ok_undo ) (by omega) hI (K := Kb (((6 * k : Nat) : Int) + 6))
theorem case_35 (hZ : Z.1 ≤ 3072) (hf : ∀ j, I32 (Z.2 j)) (hk : 6 * k + 6 ≤ Z.1) (hI : Inv k M) : ∃ M', Inv (k + 1) M' ∧ caseJ Z Kb ((6 * k : Nat) : Int) M 35 = Kb (((6 * k : Nat) : Int) + 6) M' := by
  show ∃ M', Inv (k + 1) M' ∧ drv_main_J2269 Z Kb _ M = _
  unfold drv_main_J2269
  exact case_opv ok_image (by omega) hI (K := Kb (((6 * k : Nat) : Int) + 6))
theorem case_36 (hZ : Z.1 ≤ 3072) (hf : ∀ j, I32 (Z.2 j)) (hk : 6 * k + 6 ≤ Z.1) (hI : Inv k M) : ∃ M', Inv (k + 1) M' ∧ caseJ Z Kb ((6 * k : Nat) : Int) M 36 = Kb (((6 * k : Nat) : Int) + 6) M' := by
  show ∃ M', Inv (k + 1) M' ∧ drv_main_J2280 Z Kb _ M = _
  unfold drv_main_J2280
  exact case_op0 (ok_back ) (by omega) hI (K := Kb (((6 * k : Nat) : Int) + 6))
theorem case_37 (hZ : Z.1 ≤ 3072) (hf : ∀ j, I32 (Z.2 j)) (hk : 6 * k + 6 ≤ Z.1) (hI : Inv k M) : ∃ M', Inv (k + 1) M' ∧ caseJ Z Kb ((6 * k : Nat) : Int) M 37 = Kb (((6 * k : Nat) : Int) + 6) M' := by
  have g1 : inB (((6 * k : Nat) : Int) + 1) Z.1 = true := inB_t (by omega) (by omega)
  show ∃ M', Inv (k + 1) M' ∧ drv_main_J2293 Z Kb _ M = _
  unfold drv_main_J2293
  rw [g1]
  exact case_op0 (ok_count (hf _)) (by omega) hI (K := Kb (((6 * k : Nat) : Int) + 6))
theorem case_38 (hZ : Z.1 ≤ 3072) (hf : ∀ j, I32 (Z.2 j)) (hk : 6 * k + 6 ≤ Z.1) (hI : Inv k M) : ∃ M', Inv (k + 1) M' ∧ caseJ Z Kb ((6 * k : Nat) : Int) M 38 = Kb (((6 * k : Nat) : Int) + 6) M' := by
  have hx := hI.2.2.2.2.2.2.2.2.1
  exact ⟨M, Inv_core hI Core.rfl' (by omega) hx.1 (by omega), rfl⟩
end Cases
theorem cases_all {Z : Nat × (Nat → Int)} (hZ : Z.1 ≤ 3072) (hf : ∀ j, I32 (Z.2 j)) : ∀ (j k : Nat) (M : MM) (Kb : Int → MM → OR), j < 39 → Inv k M → 6 * k + 6 ≤ Z.1 → ∃ M', Inv (k + 1) M' ∧ caseJ Z Kb ((6 * k : Nat) : Int) M j = Kb (((6 * k : Nat) : Int) + 6) M'
  | 0, k, M, Kb, _, hI, hk => case_0 hZ hf hk hI
  | 1, k, M, Kb, _, hI, hk => case_1 hZ hf hk hI
  | 2, k, M, Kb, _, hI, hk => case_2 hZ hf hk hI
  | 3, k, M, Kb, _, hI, hk => case_3 hZ hf hk hI
  | 4, k, M, Kb, _, hI, hk => case_4 hZ hf hk hI
  | 5, k, M, Kb, _, hI, hk => case_5 hZ hf hk hI
  | 6, k, M, Kb, _, hI, hk => case_6 hZ hf hk hI
  | 7, k, M, Kb, _, hI, hk => case_7 hZ hf hk hI
  | 8, k, M, Kb, _, hI, hk => case_8 hZ hf hk hI
  | 9, k, M, Kb, _, hI, hk => case_9 hZ hf hk hI
  | 10, k, M, Kb, _, hI, hk => case_10 hZ hf hk hI
  | 11, k, M, Kb, _, hI, hk => case_11 hZ hf hk hI
  | 12, k, M, Kb, _, hI, hk => case_12 hZ hf hk hI
  | 13, k, M, Kb, _, hI, hk => case_13 hZ hf hk hI
  | 14, k, M, Kb, _, hI, hk => case_14 hZ hf hk hI
  | 15, k, M, Kb, _, hI, hk => case_15 hZ hf hk hI
  | 16, k, M, Kb, _, hI, hk => case_16 hZ hf hk hI
  | 17, k, M, Kb, _, hI, hk => case_17 hZ hf hk hI
  | 18, k, M, Kb, _, hI, hk => case_18 hZ hf hk hI
  | 19, k, M, Kb, _, hI, hk => case_19 hZ hf hk hI
  | 20, k, M, Kb, _, hI, hk => case_20 hZ hf hk hI
  | 21, k, M, Kb, _, hI, hk => case_21 hZ hf hk hI
  | 22, k, M, Kb, _, hI, hk => case_22 hZ hf hk hI
  | 23, k, M, Kb, _, hI, hk => case_23 hZ hf hk hI
  | 24, k, M, Kb, _, hI, hk => case_24 hZ hf hk hI
  | 25, k, M, Kb, _, hI, hk => case_25 hZ hf hk hI
  | 26, k, M, Kb, _, hI, hk => case_26 hZ hf hk hI
  | 27, k, M, Kb, _, hI, hk => case_27 hZ hf hk hI
  | 28, k, M, Kb, _, hI, hk => case_28 hZ hf hk hI
  | 29, k, M, Kb, _, hI, hk => case_29 hZ hf hk hI
  | 30, k, M, Kb, _, hI, hk => case_30 hZ hf hk hI
  | 31, k, M, Kb, _, hI, hk => case_31 hZ hf hk hI
  | 32, k, M, Kb, _, hI, hk => case_32 hZ hf hk hI
  | 33, k, M, Kb, _, hI, hk => case_33 hZ hf hk hI
  | 34, k, M, Kb, _, hI, hk => case_34 hZ hf hk hI
  | 35, k, M, Kb, _, hI, hk => case_35 hZ hf hk hI
  | 36, k, M, Kb, _, hI, hk => case_36 hZ hf hk hI
  | 37, k, M, Kb, _, hI, hk => case_37 hZ hf hk hI
  | 38, k, M, Kb, _, hI, hk => case_38 hZ hf hk hI
  | j + 39, k, M, Kb, hj, hI, hk => absurd hj (by omega)
