/-! ===== METHODS THAT ASK FOR THE SEARCH ===== -/
-- GlassHill.soonest
def il134 : List (Nat × Instr × Nat) := [(0, .aload_n 0, 1), (1, .invokevirtual 257, 3), (4, .aload_n 0, 1), (5, .invokevirtual 380, 3), (8, .astore_n 2, 1), (9, .aload_n 2, 1), (10, .getfield 384, 3), (13, .ifCond .eq 8, 3), (16, .bipush (-3), 2), (18, .goto 16, 3), (21, .aload_n 2, 1), (22, .iload_n 1, 1), (23, .aload_n 0, 1), (24, .getfield 19, 3), (27, .invokevirtual 389, 3), (30, .iand, 1), (31, .invokevirtual 393, 3), (34, .ireturn, 1)]
theorem dc134 : dcs (mC 134) il134 := dc_of (by decide +kernel)
def gh_soonest (v1 : Int) (M : MM) : OR :=
  (bV (gh_checkAnyPlace  M) fun M_2 => (bS (gh_searchFromNow  M_2) fun q_7 M_5 => (bif cmpB .eq (M_5 1000 4) 0 then (bI (land_allBrothers 3 M_5) fun z_11 M_10 => (bI (srch_fewestHoursToFree q_7 (iAnd v1 z_11) M_10) fun z_15 M_14 => some (rI z_15, M_14))) else some (rI (-3), M_5))))
set_option maxRecDepth 4000 in
theorem gh_soonest_ok {Z : Nat × (Nat → Int)} {d : Nat} (hd : 7 ≤ d) {M : MM}  {v1 : Int} {res : AR × MM} (hf : gh_soonest v1 M = some res) : EX Z d 134 0 (ent 134 [vR 0, vI v1]) [] M res := by
  obtain ⟨e9, rfl⟩ : ∃ e9, d = e9 + 1 := ⟨d - 1, by omega⟩
  unfold gh_soonest at hf
  show EX Z _ 134 0 [vR 0, vI v1, vU] [] M res
  refine ex_pu (ls' := [vR 0, vI v1, vU]) (st' := [vR 0]) (dg dc134 0 rfl) rfl rfl ?_
  refine ex_cV (vs := [vR 0]) (st' := []) (F := (gh_checkAnyPlace  M)) (Or.inr (Or.inl ⟨rfl, (dg dc134 1 rfl)⟩)) rfl rfl (rk1 (LOC.st (Nat.le_of_ble_eq_true rfl) rfl) rfl) rfl (fun _ r9 => gh_checkAnyPlace_ok (Z := Z) (d := e9) (by omega)  r9) hf (fun M_2 he_1 hf => ?_)
  refine ex_pu (ls' := [vR 0, vI v1, vU]) (st' := [vR 0]) (dg dc134 2 rfl) rfl rfl ?_
  refine ex_cS (vs := [vR 0]) (st' := []) (F := (gh_searchFromNow  M_2)) (Or.inr (Or.inl ⟨rfl, (dg dc134 3 rfl)⟩)) rfl rfl (rk1 (LOC.st (Nat.le_of_ble_eq_true rfl) rfl) rfl) rfl (fun _ r9 => gh_searchFromNow_ok (Z := Z) (d := e9) (by omega) r9) hf (fun q_7 M_5 he_4 hf => ?_)
  obtain ⟨hq_8, h0⟩ := srch_q he_4
  have hq0 : (q_7 : Int) ≠ 0 := by omega
  refine ex_pu (ls' := [vR 0, vI v1, vR q_7]) (st' := []) (dg dc134 4 rfl) rfl rfl ?_
  refine ex_pu (ls' := [vR 0, vI v1, vR q_7]) (st' := [vR q_7]) (dg dc134 5 rfl) rfl rfl ?_
  refine ex_getI (dg dc134 6 rfl) rfl (LOC.sr (j := 0) hq_8 h0 (by decide) rfl) rfl ?_
  refine ex_if (t := 21) (dg dc134 7 rfl) rfl hf (fun _ hf => ?_) (fun _ hf => ?_)
  · refine ex_pu (ls' := [vR 0, vI v1, vR q_7]) (st' := [vR q_7]) (dg dc134 10 rfl) rfl rfl ?_
    refine ex_pu (ls' := [vR 0, vI v1, vR q_7]) (st' := [vI v1, vR q_7]) (dg dc134 11 rfl) rfl rfl ?_
    refine ex_pu (ls' := [vR 0, vI v1, vR q_7]) (st' := [vR 0, vI v1, vR q_7]) (dg dc134 12 rfl) rfl rfl ?_
    refine ex_getF (dg dc134 13 rfl) rfl (LOC.st (Nat.le_of_ble_eq_true rfl) rfl) rfl ?_
    refine ex_cI (vs := [vR 3]) (st' := [vI v1, vR q_7]) (F := (land_allBrothers 3 M_5)) (Or.inr (Or.inl ⟨rfl, (dg dc134 14 rfl)⟩)) rfl rfl (rk1 (LOC.st (Nat.le_of_ble_eq_true rfl) rfl) rfl) rfl (fun _ r9 => land_allBrothers_ok (Z := Z) (d := e9) (by omega) isLand3  r9) hf (fun z_11 M_10 he_9 hf => ?_)
    have hq_12 : M_10 0 17 = (q_7 : Int) := ((land_allBrothers_ok (Z := Z) (d := e9) (by omega) isLand3  he_9).1 (by rw [hq_8]; exact hq0)).trans hq_8
    refine ex_pu (ls' := [vR 0, vI v1, vR q_7]) (st' := [vI (iAnd v1 z_11), vR q_7]) (dg dc134 15 rfl) rfl rfl ?_
    refine ex_cI (vs := [vR q_7, vI (iAnd v1 z_11)]) (st' := []) (F := (srch_fewestHoursToFree q_7 (iAnd v1 z_11) M_10)) (Or.inr (Or.inl ⟨rfl, (dg dc134 16 rfl)⟩)) rfl rfl (rk1 (LOC.sr (j := 0) hq_12 h0 (by decide) rfl) rfl) rfl (fun _ r9 => srch_fewestHoursToFree_ok (Z := Z) (d := e9) (by omega) hq_12 h0  r9) hf (fun z_15 M_14 he_13 hf => ?_)
    have hq_16 : M_14 0 17 = (q_7 : Int) := ((srch_fewestHoursToFree_ok (Z := Z) (d := e9) (by omega) hq_12 h0  he_13).1 (by rw [hq_12]; exact hq0)).trans hq_12
    exact ex_ire (dg dc134 17 rfl) rfl hf
  · refine ex_pu (ls' := [vR 0, vI v1, vR q_7]) (st' := [vI (-3)]) (dg dc134 8 rfl) rfl rfl ?_
    refine ex_goto (t := 34) (dg dc134 9 rfl) rfl rfl ?_
    exact ex_ire (dg dc134 17 rfl) rfl hf
-- GlassHill.reached
def il135 : List (Nat × Instr × Nat) := [(0, .aload_n 0, 1), (1, .iload_n 1, 1), (2, .invokevirtual 164, 3), (5, .aload_n 0, 1), (6, .invokevirtual 380, 3), (9, .astore_n 2, 1), (10, .aload_n 2, 1), (11, .getfield 384, 3), (14, .ifCond .eq 8, 3), (17, .bipush (-3), 2), (19, .goto 8, 3), (22, .aload_n 2, 1), (23, .iload_n 1, 1), (24, .invokevirtual 396, 3), (27, .ireturn, 1)]
theorem dc135 : dcs (mC 135) il135 := dc_of (by decide +kernel)
def gh_reached (v1 : Int) (M : MM) : OR :=
  (bV (gh_checkPlace v1 M) fun M_2 => (bS (gh_searchFromNow  M_2) fun q_7 M_5 => (bif cmpB .eq (M_5 1000 4) 0 then (bI (srch_fewestHoursTo q_7 v1 M_5) fun z_11 M_10 => some (rI z_11, M_10)) else some (rI (-3), M_5))))
set_option maxRecDepth 4000 in
theorem gh_reached_ok {Z : Nat × (Nat → Int)} {d : Nat} (hd : 7 ≤ d) {M : MM}  {v1 : Int} {res : AR × MM} (hf : gh_reached v1 M = some res) : EX Z d 135 0 (ent 135 [vR 0, vI v1]) [] M res := by
  obtain ⟨e9, rfl⟩ : ∃ e9, d = e9 + 1 := ⟨d - 1, by omega⟩
  unfold gh_reached at hf
  show EX Z _ 135 0 [vR 0, vI v1, vU] [] M res
  refine ex_pu (ls' := [vR 0, vI v1, vU]) (st' := [vR 0]) (dg dc135 0 rfl) rfl rfl ?_
  refine ex_pu (ls' := [vR 0, vI v1, vU]) (st' := [vI v1, vR 0]) (dg dc135 1 rfl) rfl rfl ?_
  refine ex_cV (vs := [vR 0, vI v1]) (st' := []) (F := (gh_checkPlace v1 M)) (Or.inr (Or.inl ⟨rfl, (dg dc135 2 rfl)⟩)) rfl rfl (rk1 (LOC.st (Nat.le_of_ble_eq_true rfl) rfl) rfl) rfl (fun _ r9 => gh_checkPlace_ok (Z := Z) (d := e9) (by omega)  r9) hf (fun M_2 he_1 hf => ?_)
  refine ex_pu (ls' := [vR 0, vI v1, vU]) (st' := [vR 0]) (dg dc135 3 rfl) rfl rfl ?_
  refine ex_cS (vs := [vR 0]) (st' := []) (F := (gh_searchFromNow  M_2)) (Or.inr (Or.inl ⟨rfl, (dg dc135 4 rfl)⟩)) rfl rfl (rk1 (LOC.st (Nat.le_of_ble_eq_true rfl) rfl) rfl) rfl (fun _ r9 => gh_searchFromNow_ok (Z := Z) (d := e9) (by omega) r9) hf (fun q_7 M_5 he_4 hf => ?_)
  obtain ⟨hq_8, h0⟩ := srch_q he_4
  have hq0 : (q_7 : Int) ≠ 0 := by omega
  refine ex_pu (ls' := [vR 0, vI v1, vR q_7]) (st' := []) (dg dc135 5 rfl) rfl rfl ?_
  refine ex_pu (ls' := [vR 0, vI v1, vR q_7]) (st' := [vR q_7]) (dg dc135 6 rfl) rfl rfl ?_
  refine ex_getI (dg dc135 7 rfl) rfl (LOC.sr (j := 0) hq_8 h0 (by decide) rfl) rfl ?_
  refine ex_if (t := 22) (dg dc135 8 rfl) rfl hf (fun _ hf => ?_) (fun _ hf => ?_)
  · refine ex_pu (ls' := [vR 0, vI v1, vR q_7]) (st' := [vR q_7]) (dg dc135 11 rfl) rfl rfl ?_
    refine ex_pu (ls' := [vR 0, vI v1, vR q_7]) (st' := [vI v1, vR q_7]) (dg dc135 12 rfl) rfl rfl ?_
    refine ex_cI (vs := [vR q_7, vI v1]) (st' := []) (F := (srch_fewestHoursTo q_7 v1 M_5)) (Or.inr (Or.inl ⟨rfl, (dg dc135 13 rfl)⟩)) rfl rfl (rk1 (LOC.sr (j := 0) hq_8 h0 (by decide) rfl) rfl) rfl (fun _ r9 => srch_fewestHoursTo_ok (Z := Z) (d := e9) (by omega) hq_8 h0  r9) hf (fun z_11 M_10 he_9 hf => ?_)
    have hq_12 : M_10 0 17 = (q_7 : Int) := ((srch_fewestHoursTo_ok (Z := Z) (d := e9) (by omega) hq_8 h0  he_9).1 (by rw [hq_8]; exact hq0)).trans hq_8
    exact ex_ire (dg dc135 14 rfl) rfl hf
  · refine ex_pu (ls' := [vR 0, vI v1, vR q_7]) (st' := [vI (-3)]) (dg dc135 9 rfl) rfl rfl ?_
    refine ex_goto (t := 27) (dg dc135 10 rfl) rfl rfl ?_
    exact ex_ire (dg dc135 14 rfl) rfl hf
-- GlassHill.spared
def il136 : List (Nat × Instr × Nat) := [(0, .aload_n 0, 1), (1, .invokevirtual 257, 3), (4, .aload_n 0, 1), (5, .invokevirtual 380, 3), (8, .astore_n 2, 1), (9, .aload_n 2, 1), (10, .getfield 384, 3), (13, .ifCond .eq 8, 3), (16, .bipush (-3), 2), (18, .goto 16, 3), (21, .aload_n 2, 1), (22, .iload_n 1, 1), (23, .aload_n 0, 1), (24, .getfield 19, 3), (27, .invokevirtual 389, 3), (30, .iand, 1), (31, .invokevirtual 399, 3), (34, .ireturn, 1)]
theorem dc136 : dcs (mC 136) il136 := dc_of (by decide +kernel)
def gh_spared (v1 : Int) (M : MM) : OR :=
  (bV (gh_checkAnyPlace  M) fun M_2 => (bS (gh_searchFromNow  M_2) fun q_7 M_5 => (bif cmpB .eq (M_5 1000 4) 0 then (bI (land_allBrothers 3 M_5) fun z_11 M_10 => (bI (srch_leastLossToFree q_7 (iAnd v1 z_11) M_10) fun z_15 M_14 => some (rI z_15, M_14))) else some (rI (-3), M_5))))
set_option maxRecDepth 4000 in
theorem gh_spared_ok {Z : Nat × (Nat → Int)} {d : Nat} (hd : 7 ≤ d) {M : MM}  {v1 : Int} {res : AR × MM} (hf : gh_spared v1 M = some res) : EX Z d 136 0 (ent 136 [vR 0, vI v1]) [] M res := by
  obtain ⟨e9, rfl⟩ : ∃ e9, d = e9 + 1 := ⟨d - 1, by omega⟩
  unfold gh_spared at hf
  show EX Z _ 136 0 [vR 0, vI v1, vU] [] M res
  refine ex_pu (ls' := [vR 0, vI v1, vU]) (st' := [vR 0]) (dg dc136 0 rfl) rfl rfl ?_
  refine ex_cV (vs := [vR 0]) (st' := []) (F := (gh_checkAnyPlace  M)) (Or.inr (Or.inl ⟨rfl, (dg dc136 1 rfl)⟩)) rfl rfl (rk1 (LOC.st (Nat.le_of_ble_eq_true rfl) rfl) rfl) rfl (fun _ r9 => gh_checkAnyPlace_ok (Z := Z) (d := e9) (by omega)  r9) hf (fun M_2 he_1 hf => ?_)
  refine ex_pu (ls' := [vR 0, vI v1, vU]) (st' := [vR 0]) (dg dc136 2 rfl) rfl rfl ?_
  refine ex_cS (vs := [vR 0]) (st' := []) (F := (gh_searchFromNow  M_2)) (Or.inr (Or.inl ⟨rfl, (dg dc136 3 rfl)⟩)) rfl rfl (rk1 (LOC.st (Nat.le_of_ble_eq_true rfl) rfl) rfl) rfl (fun _ r9 => gh_searchFromNow_ok (Z := Z) (d := e9) (by omega) r9) hf (fun q_7 M_5 he_4 hf => ?_)
  obtain ⟨hq_8, h0⟩ := srch_q he_4
  have hq0 : (q_7 : Int) ≠ 0 := by omega
  refine ex_pu (ls' := [vR 0, vI v1, vR q_7]) (st' := []) (dg dc136 4 rfl) rfl rfl ?_
  refine ex_pu (ls' := [vR 0, vI v1, vR q_7]) (st' := [vR q_7]) (dg dc136 5 rfl) rfl rfl ?_
  refine ex_getI (dg dc136 6 rfl) rfl (LOC.sr (j := 0) hq_8 h0 (by decide) rfl) rfl ?_
  refine ex_if (t := 21) (dg dc136 7 rfl) rfl hf (fun _ hf => ?_) (fun _ hf => ?_)
  · refine ex_pu (ls' := [vR 0, vI v1, vR q_7]) (st' := [vR q_7]) (dg dc136 10 rfl) rfl rfl ?_
    refine ex_pu (ls' := [vR 0, vI v1, vR q_7]) (st' := [vI v1, vR q_7]) (dg dc136 11 rfl) rfl rfl ?_
    refine ex_pu (ls' := [vR 0, vI v1, vR q_7]) (st' := [vR 0, vI v1, vR q_7]) (dg dc136 12 rfl) rfl rfl ?_
    refine ex_getF (dg dc136 13 rfl) rfl (LOC.st (Nat.le_of_ble_eq_true rfl) rfl) rfl ?_
    refine ex_cI (vs := [vR 3]) (st' := [vI v1, vR q_7]) (F := (land_allBrothers 3 M_5)) (Or.inr (Or.inl ⟨rfl, (dg dc136 14 rfl)⟩)) rfl rfl (rk1 (LOC.st (Nat.le_of_ble_eq_true rfl) rfl) rfl) rfl (fun _ r9 => land_allBrothers_ok (Z := Z) (d := e9) (by omega) isLand3  r9) hf (fun z_11 M_10 he_9 hf => ?_)
    have hq_12 : M_10 0 17 = (q_7 : Int) := ((land_allBrothers_ok (Z := Z) (d := e9) (by omega) isLand3  he_9).1 (by rw [hq_8]; exact hq0)).trans hq_8
    refine ex_pu (ls' := [vR 0, vI v1, vR q_7]) (st' := [vI (iAnd v1 z_11), vR q_7]) (dg dc136 15 rfl) rfl rfl ?_
    refine ex_cI (vs := [vR q_7, vI (iAnd v1 z_11)]) (st' := []) (F := (srch_leastLossToFree q_7 (iAnd v1 z_11) M_10)) (Or.inr (Or.inl ⟨rfl, (dg dc136 16 rfl)⟩)) rfl rfl (rk1 (LOC.sr (j := 0) hq_12 h0 (by decide) rfl) rfl) rfl (fun _ r9 => srch_leastLossToFree_ok (Z := Z) (d := e9) (by omega) hq_12 h0  r9) hf (fun z_15 M_14 he_13 hf => ?_)
    have hq_16 : M_14 0 17 = (q_7 : Int) := ((srch_leastLossToFree_ok (Z := Z) (d := e9) (by omega) hq_12 h0  he_13).1 (by rw [hq_12]; exact hq0)).trans hq_12
    exact ex_ire (dg dc136 17 rfl) rfl hf
  · refine ex_pu (ls' := [vR 0, vI v1, vR q_7]) (st' := [vI (-3)]) (dg dc136 8 rfl) rfl rfl ?_
    refine ex_goto (t := 34) (dg dc136 9 rfl) rfl rfl ?_
    exact ex_ire (dg dc136 17 rfl) rfl hf
-- GlassHill.locked
def il137 : List (Nat × Instr × Nat) := [(0, .aload_n 0, 1), (1, .invokevirtual 257, 3), (4, .aload_n 0, 1), (5, .invokevirtual 380, 3), (8, .astore_n 2, 1), (9, .aload_n 2, 1), (10, .getfield 384, 3), (13, .ifCond .eq 6, 3), (16, .bipush (-3), 2), (18, .ireturn, 1), (19, .iload_n 1, 1), (20, .ifCond .eq 10, 3), (23, .aload_n 2, 1), (24, .getfield 402, 3), (27, .goto 17, 3), (30, .aload_n 0, 1), (31, .getfield 19, 3), (34, .getfield 325, 3), (37, .aload_n 2, 1), (38, .invokevirtual 403, 3), (41, .iconst (-1), 1), (42, .ixor, 1), (43, .iand, 1), (44, .ireturn, 1)]
theorem dc137 : dcs (mC 137) il137 := dc_of (by decide +kernel)
def gh_locked (v1 : Int) (M : MM) : OR :=
  (bV (gh_checkAnyPlace  M) fun M_2 => (bS (gh_searchFromNow  M_2) fun q_7 M_5 => (bif cmpB .eq (M_5 1000 4) 0 then (bif cmpB .eq v1 0 then (bI (srch_everPassed q_7 M_5) fun z_11 M_10 => some (rI (iAnd (M_5 3 5) (iXor z_11 (-1))), M_10)) else some (rI (M_5 1000 3), M_5)) else some (rI (-3), M_5))))
set_option maxRecDepth 4000 in
theorem gh_locked_ok {Z : Nat × (Nat → Int)} {d : Nat} (hd : 7 ≤ d) {M : MM}  {v1 : Int} {res : AR × MM} (hf : gh_locked v1 M = some res) : EX Z d 137 0 (ent 137 [vR 0, vI v1]) [] M res := by
  obtain ⟨e9, rfl⟩ : ∃ e9, d = e9 + 1 := ⟨d - 1, by omega⟩
  unfold gh_locked at hf
  show EX Z _ 137 0 [vR 0, vI v1, vU] [] M res
  refine ex_pu (ls' := [vR 0, vI v1, vU]) (st' := [vR 0]) (dg dc137 0 rfl) rfl rfl ?_
  refine ex_cV (vs := [vR 0]) (st' := []) (F := (gh_checkAnyPlace  M)) (Or.inr (Or.inl ⟨rfl, (dg dc137 1 rfl)⟩)) rfl rfl (rk1 (LOC.st (Nat.le_of_ble_eq_true rfl) rfl) rfl) rfl (fun _ r9 => gh_checkAnyPlace_ok (Z := Z) (d := e9) (by omega)  r9) hf (fun M_2 he_1 hf => ?_)
  refine ex_pu (ls' := [vR 0, vI v1, vU]) (st' := [vR 0]) (dg dc137 2 rfl) rfl rfl ?_
  refine ex_cS (vs := [vR 0]) (st' := []) (F := (gh_searchFromNow  M_2)) (Or.inr (Or.inl ⟨rfl, (dg dc137 3 rfl)⟩)) rfl rfl (rk1 (LOC.st (Nat.le_of_ble_eq_true rfl) rfl) rfl) rfl (fun _ r9 => gh_searchFromNow_ok (Z := Z) (d := e9) (by omega) r9) hf (fun q_7 M_5 he_4 hf => ?_)
  obtain ⟨hq_8, h0⟩ := srch_q he_4
  have hq0 : (q_7 : Int) ≠ 0 := by omega
  refine ex_pu (ls' := [vR 0, vI v1, vR q_7]) (st' := []) (dg dc137 4 rfl) rfl rfl ?_
  refine ex_pu (ls' := [vR 0, vI v1, vR q_7]) (st' := [vR q_7]) (dg dc137 5 rfl) rfl rfl ?_
  refine ex_getI (dg dc137 6 rfl) rfl (LOC.sr (j := 0) hq_8 h0 (by decide) rfl) rfl ?_
  refine ex_if (t := 19) (dg dc137 7 rfl) rfl hf (fun _ hf => ?_) (fun _ hf => ?_)
  · refine ex_pu (ls' := [vR 0, vI v1, vR q_7]) (st' := [vI v1]) (dg dc137 10 rfl) rfl rfl ?_
    refine ex_if (t := 30) (dg dc137 11 rfl) rfl hf (fun _ hf => ?_) (fun _ hf => ?_)
    · refine ex_pu (ls' := [vR 0, vI v1, vR q_7]) (st' := [vR 0]) (dg dc137 15 rfl) rfl rfl ?_
      refine ex_getF (dg dc137 16 rfl) rfl (LOC.st (Nat.le_of_ble_eq_true rfl) rfl) rfl ?_
      refine ex_getI (dg dc137 17 rfl) rfl (LOC.st (Nat.le_of_ble_eq_true rfl) rfl) rfl ?_
      refine ex_pu (ls' := [vR 0, vI v1, vR q_7]) (st' := [vR q_7, vI (M_5 3 5)]) (dg dc137 18 rfl) rfl rfl ?_
      refine ex_cI (vs := [vR q_7]) (st' := [vI (M_5 3 5)]) (F := (srch_everPassed q_7 M_5)) (Or.inr (Or.inl ⟨rfl, (dg dc137 19 rfl)⟩)) rfl rfl (rk1 (LOC.sr (j := 0) hq_8 h0 (by decide) rfl) rfl) rfl (fun _ r9 => srch_everPassed_ok (Z := Z) (d := e9) (by omega) hq_8 h0  r9) hf (fun z_11 M_10 he_9 hf => ?_)
      have hq_12 : M_10 0 17 = (q_7 : Int) := ((srch_everPassed_ok (Z := Z) (d := e9) (by omega) hq_8 h0  he_9).1 (by rw [hq_8]; exact hq0)).trans hq_8
      refine ex_pu (ls' := [vR 0, vI v1, vR q_7]) (st' := [vI (-1), vI z_11, vI (M_5 3 5)]) (dg dc137 20 rfl) rfl rfl ?_
      refine ex_pu (ls' := [vR 0, vI v1, vR q_7]) (st' := [vI (iXor z_11 (-1)), vI (M_5 3 5)]) (dg dc137 21 rfl) rfl rfl ?_
      refine ex_pu (ls' := [vR 0, vI v1, vR q_7]) (st' := [vI (iAnd (M_5 3 5) (iXor z_11 (-1)))]) (dg dc137 22 rfl) rfl rfl ?_
      exact ex_ire (dg dc137 23 rfl) rfl hf
    · refine ex_pu (ls' := [vR 0, vI v1, vR q_7]) (st' := [vR q_7]) (dg dc137 12 rfl) rfl rfl ?_
      refine ex_getI (dg dc137 13 rfl) rfl (LOC.sr (j := 0) hq_8 h0 (by decide) rfl) rfl ?_
      refine ex_goto (t := 44) (dg dc137 14 rfl) rfl rfl ?_
      exact ex_ire (dg dc137 23 rfl) rfl hf
  · refine ex_pu (ls' := [vR 0, vI v1, vR q_7]) (st' := [vI (-3)]) (dg dc137 8 rfl) rfl rfl ?_
    exact ex_ire (dg dc137 9 rfl) rfl hf
-- GlassHillLaw.soonest
def il318 : List (Nat × Instr × Nat) := [(0, .aload_n 2, 1), (1, .iconst 0, 1), (2, .aload_n 0, 1), (3, .iload_n 1, 1), (4, .invokevirtual 68, 3), (7, .i2l, 1), (8, .lastore, 1), (9, .goto 6, 3), (12, .astore_n 3, 1), (13, .iconst 1, 1), (14, .ireturn, 1), (15, .iconst 0, 1), (16, .ireturn, 1)]
theorem dc318 : dcs (mC 318) il318 := dc_of (by decide +kernel)
def drv_soonest (v1 : Int) (M : MM) : OR :=
  (bH (gh_soonest v1 M) (fun z_3 M_2 => (bif inB 0 1 then (sM (mU M_2 181 0 (w32 z_3)) fun M_4 => some (rI 0, M_4)) else none)) fun c_6 M_2 => (bif Nat.beq c_6 14 then some (rI 1, M_2) else none))
set_option maxRecDepth 4000 in
theorem drv_soonest_ok {Z : Nat × (Nat → Int)} {d : Nat} (hd : 8 ≤ d) {M : MM}  {v1 : Int} {res : AR × MM} (hf : drv_soonest v1 M = some res) : EX Z d 318 0 (ent 318 [vR 0, vI v1, vR 181]) [] M res := by
  obtain ⟨e9, rfl⟩ : ∃ e9, d = e9 + 1 := ⟨d - 1, by omega⟩
  unfold drv_soonest at hf
  show EX Z _ 318 0 [vR 0, vI v1, vR 181, vU] [] M res
  refine ex_pu (ls' := [vR 0, vI v1, vR 181, vU]) (st' := [vR 181]) (dg dc318 0 rfl) rfl rfl ?_
  refine ex_pu (ls' := [vR 0, vI v1, vR 181, vU]) (st' := [vI 0, vR 181]) (dg dc318 1 rfl) rfl rfl ?_
  refine ex_pu (ls' := [vR 0, vI v1, vR 181, vU]) (st' := [vR 0, vI 0, vR 181]) (dg dc318 2 rfl) rfl rfl ?_
  refine ex_pu (ls' := [vR 0, vI v1, vR 181, vU]) (st' := [vI v1, vR 0, vI 0, vR 181]) (dg dc318 3 rfl) rfl rfl ?_
  refine ex_cH (vs := [vR 0, vI v1]) (st' := [vI 0, vR 181]) (F := (gh_soonest v1 M)) (Or.inr (Or.inl ⟨rfl, (dg dc318 4 rfl)⟩)) rfl rfl (rk1 (LOC.st (Nat.le_of_ble_eq_true rfl) rfl) rfl) (fun _ r9 => gh_soonest_ok (Z := Z) (d := e9) (by omega)  r9) hf (fun z_3 M_2 he_1 hf => ?_) (fun c_6 M_2 he_1 hf => ?_)
  · refine ex_pu (ls' := [vR 0, vI v1, vR 181, vU]) (st' := [vJ (w32 z_3), vI 0, vR 181]) (dg dc318 5 rfl) rfl rfl ?_
    refine ex_last (dg dc318 6 rfl) (LOC.st (Nat.le_of_ble_eq_true rfl) rfl) rfl rfl hf (fun _ hf => ?_)
    refine ex_gen hf (fun M_4 hM_5 hf => ?_)
    refine ex_goto (t := 15) (dg dc318 7 rfl) rfl rfl ?_
    refine ex_pu (ls' := [vR 0, vI v1, vR 181, vU]) (st' := [vI 0]) (dg dc318 11 rfl) rfl rfl ?_
    exact ex_ire (dg dc318 12 rfl) rfl hf
  · refine ex_bif hf (fun hb hf => ?_) (fun _ hf => ?_)
    · obtain rfl := bq hb
      refine ex_hnd (vs := [vR 0, vI v1]) (st' := [vI 0, vR 181]) (ci := 14) (g := 12) (k0 := 3) (g2 := 13) (Or.inr (Or.inl ⟨rfl, (dg dc318 4 rfl)⟩)) rfl rfl (fun _ hR => RK.calO hR rfl (rk1 (LOC.st (Nat.le_of_ble_eq_true rfl) rfl) rfl)) ⟨by decide, by decide⟩ (by decide +kernel) (Or.inl ⟨3, rfl, (dg dc318 8 rfl), rfl⟩) (blt_ok rfl) (gh_soonest_ok (Z := Z) (d := e9) (by omega)  he_1) ?_
      show EX Z _ 318 13 [vR 0, vI v1, vR 181, vU] [] M_2 res
      refine ex_pu (ls' := [vR 0, vI v1, vR 181, vU]) (st' := [vI 1]) (dg dc318 9 rfl) rfl rfl ?_
      exact ex_ire (dg dc318 10 rfl) rfl hf
    · cases hf
-- GlassHillLaw.reached
def il319 : List (Nat × Instr × Nat) := [(0, .aload_n 2, 1), (1, .iconst 0, 1), (2, .aload_n 0, 1), (3, .iload_n 1, 1), (4, .invokevirtual 71, 3), (7, .i2l, 1), (8, .lastore, 1), (9, .goto 6, 3), (12, .astore_n 3, 1), (13, .iconst 1, 1), (14, .ireturn, 1), (15, .iconst 0, 1), (16, .ireturn, 1)]
theorem dc319 : dcs (mC 319) il319 := dc_of (by decide +kernel)
def drv_reached (v1 : Int) (M : MM) : OR :=
  (bH (gh_reached v1 M) (fun z_3 M_2 => (bif inB 0 1 then (sM (mU M_2 181 0 (w32 z_3)) fun M_4 => some (rI 0, M_4)) else none)) fun c_6 M_2 => (bif Nat.beq c_6 15 then some (rI 1, M_2) else none))
set_option maxRecDepth 4000 in
theorem drv_reached_ok {Z : Nat × (Nat → Int)} {d : Nat} (hd : 8 ≤ d) {M : MM}  {v1 : Int} {res : AR × MM} (hf : drv_reached v1 M = some res) : EX Z d 319 0 (ent 319 [vR 0, vI v1, vR 181]) [] M res := by
  obtain ⟨e9, rfl⟩ : ∃ e9, d = e9 + 1 := ⟨d - 1, by omega⟩
  unfold drv_reached at hf
  show EX Z _ 319 0 [vR 0, vI v1, vR 181, vU] [] M res
  refine ex_pu (ls' := [vR 0, vI v1, vR 181, vU]) (st' := [vR 181]) (dg dc319 0 rfl) rfl rfl ?_
  refine ex_pu (ls' := [vR 0, vI v1, vR 181, vU]) (st' := [vI 0, vR 181]) (dg dc319 1 rfl) rfl rfl ?_
  refine ex_pu (ls' := [vR 0, vI v1, vR 181, vU]) (st' := [vR 0, vI 0, vR 181]) (dg dc319 2 rfl) rfl rfl ?_
  refine ex_pu (ls' := [vR 0, vI v1, vR 181, vU]) (st' := [vI v1, vR 0, vI 0, vR 181]) (dg dc319 3 rfl) rfl rfl ?_
  refine ex_cH (vs := [vR 0, vI v1]) (st' := [vI 0, vR 181]) (F := (gh_reached v1 M)) (Or.inr (Or.inl ⟨rfl, (dg dc319 4 rfl)⟩)) rfl rfl (rk1 (LOC.st (Nat.le_of_ble_eq_true rfl) rfl) rfl) (fun _ r9 => gh_reached_ok (Z := Z) (d := e9) (by omega)  r9) hf (fun z_3 M_2 he_1 hf => ?_) (fun c_6 M_2 he_1 hf => ?_)
  · refine ex_pu (ls' := [vR 0, vI v1, vR 181, vU]) (st' := [vJ (w32 z_3), vI 0, vR 181]) (dg dc319 5 rfl) rfl rfl ?_
    refine ex_last (dg dc319 6 rfl) (LOC.st (Nat.le_of_ble_eq_true rfl) rfl) rfl rfl hf (fun _ hf => ?_)
    refine ex_gen hf (fun M_4 hM_5 hf => ?_)
    refine ex_goto (t := 15) (dg dc319 7 rfl) rfl rfl ?_
    refine ex_pu (ls' := [vR 0, vI v1, vR 181, vU]) (st' := [vI 0]) (dg dc319 11 rfl) rfl rfl ?_
    exact ex_ire (dg dc319 12 rfl) rfl hf
  · refine ex_bif hf (fun hb hf => ?_) (fun _ hf => ?_)
    · obtain rfl := bq hb
      refine ex_hnd (vs := [vR 0, vI v1]) (st' := [vI 0, vR 181]) (ci := 15) (g := 12) (k0 := 3) (g2 := 13) (Or.inr (Or.inl ⟨rfl, (dg dc319 4 rfl)⟩)) rfl rfl (fun _ hR => RK.calO hR rfl (rk1 (LOC.st (Nat.le_of_ble_eq_true rfl) rfl) rfl)) ⟨by decide, by decide⟩ (by decide +kernel) (Or.inl ⟨3, rfl, (dg dc319 8 rfl), rfl⟩) (blt_ok rfl) (gh_reached_ok (Z := Z) (d := e9) (by omega)  he_1) ?_
      show EX Z _ 319 13 [vR 0, vI v1, vR 181, vU] [] M_2 res
      refine ex_pu (ls' := [vR 0, vI v1, vR 181, vU]) (st' := [vI 1]) (dg dc319 9 rfl) rfl rfl ?_
      exact ex_ire (dg dc319 10 rfl) rfl hf
    · cases hf
-- GlassHillLaw.spared
def il320 : List (Nat × Instr × Nat) := [(0, .aload_n 2, 1), (1, .iconst 0, 1), (2, .aload_n 0, 1), (3, .iload_n 1, 1), (4, .invokevirtual 74, 3), (7, .i2l, 1), (8, .lastore, 1), (9, .goto 6, 3), (12, .astore_n 3, 1), (13, .iconst 1, 1), (14, .ireturn, 1), (15, .iconst 0, 1), (16, .ireturn, 1)]
theorem dc320 : dcs (mC 320) il320 := dc_of (by decide +kernel)
def drv_spared (v1 : Int) (M : MM) : OR :=
  (bH (gh_spared v1 M) (fun z_3 M_2 => (bif inB 0 1 then (sM (mU M_2 181 0 (w32 z_3)) fun M_4 => some (rI 0, M_4)) else none)) fun c_6 M_2 => (bif Nat.beq c_6 14 then some (rI 1, M_2) else none))
set_option maxRecDepth 4000 in
theorem drv_spared_ok {Z : Nat × (Nat → Int)} {d : Nat} (hd : 8 ≤ d) {M : MM}  {v1 : Int} {res : AR × MM} (hf : drv_spared v1 M = some res) : EX Z d 320 0 (ent 320 [vR 0, vI v1, vR 181]) [] M res := by
  obtain ⟨e9, rfl⟩ : ∃ e9, d = e9 + 1 := ⟨d - 1, by omega⟩
  unfold drv_spared at hf
  show EX Z _ 320 0 [vR 0, vI v1, vR 181, vU] [] M res
  refine ex_pu (ls' := [vR 0, vI v1, vR 181, vU]) (st' := [vR 181]) (dg dc320 0 rfl) rfl rfl ?_
  refine ex_pu (ls' := [vR 0, vI v1, vR 181, vU]) (st' := [vI 0, vR 181]) (dg dc320 1 rfl) rfl rfl ?_
  refine ex_pu (ls' := [vR 0, vI v1, vR 181, vU]) (st' := [vR 0, vI 0, vR 181]) (dg dc320 2 rfl) rfl rfl ?_
  refine ex_pu (ls' := [vR 0, vI v1, vR 181, vU]) (st' := [vI v1, vR 0, vI 0, vR 181]) (dg dc320 3 rfl) rfl rfl ?_
  refine ex_cH (vs := [vR 0, vI v1]) (st' := [vI 0, vR 181]) (F := (gh_spared v1 M)) (Or.inr (Or.inl ⟨rfl, (dg dc320 4 rfl)⟩)) rfl rfl (rk1 (LOC.st (Nat.le_of_ble_eq_true rfl) rfl) rfl) (fun _ r9 => gh_spared_ok (Z := Z) (d := e9) (by omega)  r9) hf (fun z_3 M_2 he_1 hf => ?_) (fun c_6 M_2 he_1 hf => ?_)
  · refine ex_pu (ls' := [vR 0, vI v1, vR 181, vU]) (st' := [vJ (w32 z_3), vI 0, vR 181]) (dg dc320 5 rfl) rfl rfl ?_
    refine ex_last (dg dc320 6 rfl) (LOC.st (Nat.le_of_ble_eq_true rfl) rfl) rfl rfl hf (fun _ hf => ?_)
    refine ex_gen hf (fun M_4 hM_5 hf => ?_)
    refine ex_goto (t := 15) (dg dc320 7 rfl) rfl rfl ?_
    refine ex_pu (ls' := [vR 0, vI v1, vR 181, vU]) (st' := [vI 0]) (dg dc320 11 rfl) rfl rfl ?_
    exact ex_ire (dg dc320 12 rfl) rfl hf
  · refine ex_bif hf (fun hb hf => ?_) (fun _ hf => ?_)
    · obtain rfl := bq hb
      refine ex_hnd (vs := [vR 0, vI v1]) (st' := [vI 0, vR 181]) (ci := 14) (g := 12) (k0 := 3) (g2 := 13) (Or.inr (Or.inl ⟨rfl, (dg dc320 4 rfl)⟩)) rfl rfl (fun _ hR => RK.calO hR rfl (rk1 (LOC.st (Nat.le_of_ble_eq_true rfl) rfl) rfl)) ⟨by decide, by decide⟩ (by decide +kernel) (Or.inl ⟨3, rfl, (dg dc320 8 rfl), rfl⟩) (blt_ok rfl) (gh_spared_ok (Z := Z) (d := e9) (by omega)  he_1) ?_
      show EX Z _ 320 13 [vR 0, vI v1, vR 181, vU] [] M_2 res
      refine ex_pu (ls' := [vR 0, vI v1, vR 181, vU]) (st' := [vI 1]) (dg dc320 9 rfl) rfl rfl ?_
      exact ex_ire (dg dc320 10 rfl) rfl hf
    · cases hf
-- GlassHillLaw.locked
def il321 : List (Nat × Instr × Nat) := [(0, .aload_n 2, 1), (1, .iconst 0, 1), (2, .aload_n 0, 1), (3, .iload_n 1, 1), (4, .invokevirtual 77, 3), (7, .i2l, 1), (8, .lastore, 1), (9, .goto 6, 3), (12, .astore_n 3, 1), (13, .iconst 1, 1), (14, .ireturn, 1), (15, .iconst 0, 1), (16, .ireturn, 1)]
theorem dc321 : dcs (mC 321) il321 := dc_of (by decide +kernel)
def drv_locked (v1 : Int) (M : MM) : OR :=
  (bH (gh_locked v1 M) (fun z_3 M_2 => (bif inB 0 1 then (sM (mU M_2 181 0 (w32 z_3)) fun M_4 => some (rI 0, M_4)) else none)) fun c_6 M_2 => (bif Nat.beq c_6 14 then some (rI 1, M_2) else none))
set_option maxRecDepth 4000 in
theorem drv_locked_ok {Z : Nat × (Nat → Int)} {d : Nat} (hd : 8 ≤ d) {M : MM}  {v1 : Int} {res : AR × MM} (hf : drv_locked v1 M = some res) : EX Z d 321 0 (ent 321 [vR 0, vI v1, vR 181]) [] M res := by
  obtain ⟨e9, rfl⟩ : ∃ e9, d = e9 + 1 := ⟨d - 1, by omega⟩
  unfold drv_locked at hf
  show EX Z _ 321 0 [vR 0, vI v1, vR 181, vU] [] M res
  refine ex_pu (ls' := [vR 0, vI v1, vR 181, vU]) (st' := [vR 181]) (dg dc321 0 rfl) rfl rfl ?_
  refine ex_pu (ls' := [vR 0, vI v1, vR 181, vU]) (st' := [vI 0, vR 181]) (dg dc321 1 rfl) rfl rfl ?_
  refine ex_pu (ls' := [vR 0, vI v1, vR 181, vU]) (st' := [vR 0, vI 0, vR 181]) (dg dc321 2 rfl) rfl rfl ?_
  refine ex_pu (ls' := [vR 0, vI v1, vR 181, vU]) (st' := [vI v1, vR 0, vI 0, vR 181]) (dg dc321 3 rfl) rfl rfl ?_
  refine ex_cH (vs := [vR 0, vI v1]) (st' := [vI 0, vR 181]) (F := (gh_locked v1 M)) (Or.inr (Or.inl ⟨rfl, (dg dc321 4 rfl)⟩)) rfl rfl (rk1 (LOC.st (Nat.le_of_ble_eq_true rfl) rfl) rfl) (fun _ r9 => gh_locked_ok (Z := Z) (d := e9) (by omega)  r9) hf (fun z_3 M_2 he_1 hf => ?_) (fun c_6 M_2 he_1 hf => ?_)
  · refine ex_pu (ls' := [vR 0, vI v1, vR 181, vU]) (st' := [vJ (w32 z_3), vI 0, vR 181]) (dg dc321 5 rfl) rfl rfl ?_
    refine ex_last (dg dc321 6 rfl) (LOC.st (Nat.le_of_ble_eq_true rfl) rfl) rfl rfl hf (fun _ hf => ?_)
    refine ex_gen hf (fun M_4 hM_5 hf => ?_)
    refine ex_goto (t := 15) (dg dc321 7 rfl) rfl rfl ?_
    refine ex_pu (ls' := [vR 0, vI v1, vR 181, vU]) (st' := [vI 0]) (dg dc321 11 rfl) rfl rfl ?_
    exact ex_ire (dg dc321 12 rfl) rfl hf
  · refine ex_bif hf (fun hb hf => ?_) (fun _ hf => ?_)
    · obtain rfl := bq hb
      refine ex_hnd (vs := [vR 0, vI v1]) (st' := [vI 0, vR 181]) (ci := 14) (g := 12) (k0 := 3) (g2 := 13) (Or.inr (Or.inl ⟨rfl, (dg dc321 4 rfl)⟩)) rfl rfl (fun _ hR => RK.calO hR rfl (rk1 (LOC.st (Nat.le_of_ble_eq_true rfl) rfl) rfl)) ⟨by decide, by decide⟩ (by decide +kernel) (Or.inl ⟨3, rfl, (dg dc321 8 rfl), rfl⟩) (blt_ok rfl) (gh_locked_ok (Z := Z) (d := e9) (by omega)  he_1) ?_
      show EX Z _ 321 13 [vR 0, vI v1, vR 181, vU] [] M_2 res
      refine ex_pu (ls' := [vR 0, vI v1, vR 181, vU]) (st' := [vI 1]) (dg dc321 9 rfl) rfl rfl ?_
      exact ex_ire (dg dc321 10 rfl) rfl hf
    · cases hf
