/-! ===== METHODS 7 ===== -/
-- GlassHill$Riddles.platesAnswer
def il43 : List (Nat × Instr × Nat) := [(0, .aload_n 0, 1), (1, .iload_n 1, 1), (2, .invokevirtual 77, 3), (5, .iload_n 2, 1), (6, .iconst (-1), 1), (7, .if_icmp .ne 10, 3), (10, .aload_n 0, 1), (11, .getfield 18, 3), (14, .iconst 0, 1), (15, .iaload, 1), (16, .ireturn, 1), (17, .iconst 0, 1), (18, .istore_n 3, 1), (19, .iconst (-1), 1), (20, .istore 4, 2), (22, .iconst 0, 1), (23, .istore 5, 2), (25, .iload 5, 2), (27, .iload_n 2, 1), (28, .if_icmp .gt 33, 3), (31, .aload_n 0, 1), (32, .iload 5, 2), (34, .iload_n 3, 1), (35, .invokevirtual 81, 3), (38, .istore 4, 2), (40, .iload 4, 2), (42, .iconst (-1), 1), (43, .if_icmp .ne 5, 3), (46, .iconst (-1), 1), (47, .ireturn, 1), (48, .iload_n 3, 1), (49, .iconst 1, 1), (50, .iload 4, 2), (52, .ishl, 1), (53, .ior, 1), (54, .istore_n 3, 1), (55, .iinc 5 1, 3), (58, .goto (-33), 3), (61, .iload 4, 2), (63, .ireturn, 1)]
theorem dc43 : dcs (mC 43) il43 := dc_of (by decide +kernel)
def ridd_platesAnswer_L25  (v2 : Int) (K1 : Int → MM → OR) (K2 : MM → OR) : Nat → Int → Int → Int → MM → OR
  | 0, _, _, _, _ => none
  | n + 1, v3, v4, v5, M => (bif cmpB .gt v5 v2 then (K1 v4 M) else (bI (ridd_leastThatGoesOn v5 v3 M) fun z_6 M_5 => (bif cmpB .ne z_6 (-1) then (ridd_platesAnswer_L25 v2 K1 K2 n (iOr v3 (iShl 1 z_6)) z_6 (v5 + 1) M_5) else (K2  M_5))))
set_option maxRecDepth 4000 in
theorem ridd_platesAnswer_L25_ok {Z : Nat × (Nat → Int)} {d : Nat} (hd : 3 ≤ d)  {v2 : Int} {K1 : Int → MM → OR} {K2 : MM → OR} {res : AR × MM} (k1 : ∀ (x4 : Int) (M : MM) (j0 j1 j2 j3 j5 : AV), K1 x4 M = some res → EX Z d 43 61 [j0, j1, j2, j3, vI x4, j5] [] M res) (k2 : ∀ (M : MM) (j0 j1 j2 j3 j4 j5 : AV), K2  M = some res → EX Z d 43 46 [j0, j1, j2, j3, j4, j5] [] M res) : ∀ (n : Nat) (v3 v4 v5 : Int) (M : MM) (j1 : AV), ridd_platesAnswer_L25 v2 K1 K2 n v3 v4 v5 M = some res → EX Z d 43 25 [vR 161, j1, vI v2, vI v3, vI v4, vI v5] [] M res := by
  obtain ⟨e9, rfl⟩ : ∃ e9, d = e9 + 1 := ⟨d - 1, by omega⟩
  intro n
  induction n with
  | zero =>
    intro v3 v4 v5 M j1 hf
    unfold ridd_platesAnswer_L25 at hf
    cases hf
  | succ n ih =>
    intro v3 v4 v5 M j1 hf
    unfold ridd_platesAnswer_L25 at hf
    refine ex_pu (ls' := [vR 161, j1, vI v2, vI v3, vI v4, vI v5]) (st' := [vI v5]) (dg dc43 17 rfl) rfl rfl ?_
    refine ex_pu (ls' := [vR 161, j1, vI v2, vI v3, vI v4, vI v5]) (st' := [vI v2, vI v5]) (dg dc43 18 rfl) rfl rfl ?_
    refine ex_icmp (t := 61) (dg dc43 19 rfl) rfl hf (fun _ hf => ?_) (fun _ hf => ?_)
    · exact k1 v4 M _ _ _ _ _ hf
    · refine ex_pu (ls' := [vR 161, j1, vI v2, vI v3, vI v4, vI v5]) (st' := [vR 161]) (dg dc43 20 rfl) rfl rfl ?_
      refine ex_pu (ls' := [vR 161, j1, vI v2, vI v3, vI v4, vI v5]) (st' := [vI v5, vR 161]) (dg dc43 21 rfl) rfl rfl ?_
      refine ex_pu (ls' := [vR 161, j1, vI v2, vI v3, vI v4, vI v5]) (st' := [vI v3, vI v5, vR 161]) (dg dc43 22 rfl) rfl rfl ?_
      refine ex_cI (vs := [vR 161, vI v5, vI v3]) (st' := []) (F := (ridd_leastThatGoesOn v5 v3 M)) (Or.inr (Or.inl ⟨rfl, (dg dc43 23 rfl)⟩)) rfl rfl (rk1 (LOC.st (Nat.le_of_ble_eq_true rfl) rfl) rfl) rfl (fun _ r9 => ridd_leastThatGoesOn_ok (Z := Z) (d := e9) (by omega)  r9) hf (fun z_6 M_5 he_4 hf => ?_)
      refine ex_pu (ls' := [vR 161, j1, vI v2, vI v3, vI z_6, vI v5]) (st' := []) (dg dc43 24 rfl) rfl rfl ?_
      refine ex_pu (ls' := [vR 161, j1, vI v2, vI v3, vI z_6, vI v5]) (st' := [vI z_6]) (dg dc43 25 rfl) rfl rfl ?_
      refine ex_pu (ls' := [vR 161, j1, vI v2, vI v3, vI z_6, vI v5]) (st' := [vI (-1), vI z_6]) (dg dc43 26 rfl) rfl rfl ?_
      refine ex_icmp (t := 48) (dg dc43 27 rfl) rfl hf (fun _ hf => ?_) (fun _ hf => ?_)
      · refine ex_pu (ls' := [vR 161, j1, vI v2, vI v3, vI z_6, vI v5]) (st' := [vI v3]) (dg dc43 30 rfl) rfl rfl ?_
        refine ex_pu (ls' := [vR 161, j1, vI v2, vI v3, vI z_6, vI v5]) (st' := [vI 1, vI v3]) (dg dc43 31 rfl) rfl rfl ?_
        refine ex_pu (ls' := [vR 161, j1, vI v2, vI v3, vI z_6, vI v5]) (st' := [vI z_6, vI 1, vI v3]) (dg dc43 32 rfl) rfl rfl ?_
        refine ex_pu (ls' := [vR 161, j1, vI v2, vI v3, vI z_6, vI v5]) (st' := [vI (iShl 1 z_6), vI v3]) (dg dc43 33 rfl) rfl rfl ?_
        refine ex_pu (ls' := [vR 161, j1, vI v2, vI v3, vI z_6, vI v5]) (st' := [vI (iOr v3 (iShl 1 z_6))]) (dg dc43 34 rfl) rfl rfl ?_
        refine ex_pu (ls' := [vR 161, j1, vI v2, vI (iOr v3 (iShl 1 z_6)), vI z_6, vI v5]) (st' := []) (dg dc43 35 rfl) rfl rfl ?_
        refine ex_pu (ls' := [vR 161, j1, vI v2, vI (iOr v3 (iShl 1 z_6)), vI z_6, vI (v5 + 1)]) (st' := []) (dg dc43 36 rfl) rfl rfl ?_
        refine ex_goto (t := 25) (dg dc43 37 rfl) rfl rfl ?_
        exact ih (iOr v3 (iShl 1 z_6)) z_6 (v5 + 1) M_5 _ hf
      · exact k2  M_5 _ _ _ _ _ _ hf
def ridd_platesAnswer (v1 : Int) (v2 : Int) (M : MM) : OR :=
  (bV (ridd_countWays v1 M) fun M_2 => (bif cmpB .ne v2 (-1) then (ridd_platesAnswer_L25 v2 (fun v4_7 M_8 => some (rI v4_7, M_8)) (fun M_14 => some (rI (-1), M_14)) FU 0 (-1) 0 M_2) else (bif inB 0 128 then some (rI (M_2 164 0), M_2) else none)))
set_option maxRecDepth 4000 in
theorem ridd_platesAnswer_ok {Z : Nat × (Nat → Int)} {d : Nat} (hd : 3 ≤ d) {M : MM}  {v1 v2 : Int} {res : AR × MM} (hf : ridd_platesAnswer v1 v2 M = some res) : EX Z d 43 0 (ent 43 [vR 161, vI v1, vI v2]) [] M res := by
  obtain ⟨e9, rfl⟩ : ∃ e9, d = e9 + 1 := ⟨d - 1, by omega⟩
  unfold ridd_platesAnswer at hf
  show EX Z _ 43 0 [vR 161, vI v1, vI v2, vU, vU, vU] [] M res
  refine ex_pu (ls' := [vR 161, vI v1, vI v2, vU, vU, vU]) (st' := [vR 161]) (dg dc43 0 rfl) rfl rfl ?_
  refine ex_pu (ls' := [vR 161, vI v1, vI v2, vU, vU, vU]) (st' := [vI v1, vR 161]) (dg dc43 1 rfl) rfl rfl ?_
  refine ex_cV (vs := [vR 161, vI v1]) (st' := []) (F := (ridd_countWays v1 M)) (Or.inr (Or.inl ⟨rfl, (dg dc43 2 rfl)⟩)) rfl rfl (rk1 (LOC.st (Nat.le_of_ble_eq_true rfl) rfl) rfl) rfl (fun _ r9 => ridd_countWays_ok (Z := Z) (d := e9) (by omega)  r9) hf (fun M_2 he_1 hf => ?_)
  refine ex_pu (ls' := [vR 161, vI v1, vI v2, vU, vU, vU]) (st' := [vI v2]) (dg dc43 3 rfl) rfl rfl ?_
  refine ex_pu (ls' := [vR 161, vI v1, vI v2, vU, vU, vU]) (st' := [vI (-1), vI v2]) (dg dc43 4 rfl) rfl rfl ?_
  refine ex_icmp (t := 17) (dg dc43 5 rfl) rfl hf (fun _ hf => ?_) (fun _ hf => ?_)
  · refine ex_pu (ls' := [vR 161, vI v1, vI v2, vU, vU, vU]) (st' := [vI 0]) (dg dc43 11 rfl) rfl rfl ?_
    refine ex_pu (ls' := [vR 161, vI v1, vI v2, vI 0, vU, vU]) (st' := []) (dg dc43 12 rfl) rfl rfl ?_
    refine ex_pu (ls' := [vR 161, vI v1, vI v2, vI 0, vU, vU]) (st' := [vI (-1)]) (dg dc43 13 rfl) rfl rfl ?_
    refine ex_pu (ls' := [vR 161, vI v1, vI v2, vI 0, vI (-1), vU]) (st' := []) (dg dc43 14 rfl) rfl rfl ?_
    refine ex_pu (ls' := [vR 161, vI v1, vI v2, vI 0, vI (-1), vU]) (st' := [vI 0]) (dg dc43 15 rfl) rfl rfl ?_
    refine ex_pu (ls' := [vR 161, vI v1, vI v2, vI 0, vI (-1), vI 0]) (st' := []) (dg dc43 16 rfl) rfl rfl ?_
    refine ridd_platesAnswer_L25_ok hd  ?_ ?_ FU 0 (-1) 0 M_2 _ hf
    · intro v4_7 M_8 j0_9 j1_10 j2_11 j3_12 j5_13 hf
      refine ex_pu (ls' := [j0_9, j1_10, j2_11, j3_12, vI v4_7, j5_13]) (st' := [vI v4_7]) (dg dc43 38 rfl) rfl rfl ?_
      exact ex_ire (dg dc43 39 rfl) rfl hf
    · intro M_14 j0_15 j1_16 j2_17 j3_18 j4_19 j5_20 hf
      refine ex_pu (ls' := [j0_15, j1_16, j2_17, j3_18, j4_19, j5_20]) (st' := [vI (-1)]) (dg dc43 28 rfl) rfl rfl ?_
      exact ex_ire (dg dc43 29 rfl) rfl hf
  · refine ex_pu (ls' := [vR 161, vI v1, vI v2, vU, vU, vU]) (st' := [vR 161]) (dg dc43 6 rfl) rfl rfl ?_
    refine ex_getO (dg dc43 7 rfl) rfl (LOC.st (Nat.le_of_ble_eq_true rfl) rfl) rfl ?_
    show EX Z _ 43 _ [vR 161, vI v1, vI v2, vU, vU, vU] [vR 164] _ _
    refine ex_pu (ls' := [vR 161, vI v1, vI v2, vU, vU, vU]) (st' := [vI 0, vR 164]) (dg dc43 8 rfl) rfl rfl ?_
    refine ex_iald (dg dc43 9 rfl) (LOC.st (Nat.le_of_ble_eq_true rfl) rfl) rfl hf (fun _ hf => ?_)
    exact ex_ire (dg dc43 10 rfl) rfl hf
-- GlassHill$Search.addRoads
def il56 : List (Nat × Instr × Nat) := [(0, .lload_n 1, 1), (1, .bipush 51, 2), (3, .lushr, 1), (4, .ldc2_w 127, 3), (7, .land, 1), (8, .l2i, 1), (9, .iconst 1, 1), (10, .isub, 1), (11, .istore_n 3, 1), (12, .iconst 0, 1), (13, .istore 4, 2), (15, .iload 4, 2), (17, .aload_n 0, 1), (18, .getfield 36, 3), (21, .getfield 129, 3), (24, .if_icmp .ge 124, 3), (27, .iload 4, 2), (29, .bipush 16, 2), (31, .if_icmp .ge 117, 3), (34, .aload_n 0, 1), (35, .getfield 44, 3), (38, .iload 4, 2), (40, .aload_n 0, 1), (41, .getfield 69, 3), (44, .iload_n 3, 1), (45, .aload_n 0, 1), (46, .getfield 78, 3), (49, .aload_n 0, 1), (50, .getfield 72, 3), (53, .aload_n 0, 1), (54, .getfield 40, 3), (57, .getfield 132, 3), (60, .aload_n 0, 1), (61, .getfield 63, 3), (64, .iadd, 1), (65, .invokevirtual 135, 3), (68, .istore 5, 2), (70, .iload 5, 2), (72, .iconst (-1), 1), (73, .if_icmp .eq 69, 3), (76, .iload 5, 2), (78, .aload_n 0, 1), (79, .getfield 40, 3), (82, .getfield 132, 3), (85, .isub, 1), (86, .bipush 30, 2), (88, .if_icmp .gt 54, 3), (91, .aload_n 0, 1), (92, .lload_n 1, 1), (93, .ldc2_w 141, 3), (96, .land, 1), (97, .aload_n 0, 1), (98, .getfield 36, 3), (101, .iload 4, 2), (103, .aload_n 0, 1), (104, .getfield 69, 3), (107, .invokevirtual 143, 3), (110, .i2l, 1), (111, .bipush 47, 2), (113, .lshl, 1), (114, .lor, 1), (115, .iload 4, 2), (117, .iconst 1, 1), (118, .iadd, 1), (119, .i2l, 1), (120, .bipush 51, 2), (122, .lshl, 1), (123, .lor, 1), (124, .iload 5, 2), (126, .aload_n 0, 1), (127, .getfield 40, 3), (130, .getfield 132, 3), (133, .isub, 1), (134, .i2l, 1), (135, .bipush 56, 2), (137, .lshl, 1), (138, .lor, 1), (139, .invokevirtual 55, 3), (142, .iinc 4 1, 3), (145, .goto (-130), 3), (148, .return_, 1)]
theorem dc56 : dcs (mC 56) il56 := dc_of (by decide +kernel)
def srch_addRoads_L15 (q : Nat) (v1 v3 : Int) (K1 : MM → OR) : Nat → Int → MM → OR
  | 0, _, _ => none
  | n + 1, v4, M => (bif cmpB .ge v4 (M 3 2) then (K1  M) else (bif cmpB .ge v4 16 then (K1  M) else (bI (stps_arrival v4 (M 1000 11) v3 (M 1000 13) (M 1000 12) ((M 23 1) + (M 1000 10)) M) fun z_3 M_2 => (bif cmpB .eq z_3 (-1) then (srch_addRoads_L15 q v1 v3 K1 n (v4 + 1) M_2) else (bif cmpB .gt (z_3 - (M_2 23 1)) 30 then (srch_addRoads_L15 q v1 v3 K1 n (v4 + 1) M_2) else (bI (land_otherEnd 3 v4 (M_2 1000 11) M_2) fun z_7 M_6 => (bV (srch_add q (lOr (lOr (lOr (lAnd v1 140737488355327) (lShl (w32 z_7) 47)) (lShl (w32 (v4 + 1)) 51)) (lShl (w32 (z_3 - (M_6 23 1))) 56)) M_6) fun M_10 => (srch_addRoads_L15 q v1 v3 K1 n (v4 + 1) M_10))))))))
set_option maxRecDepth 4000 in
theorem srch_addRoads_L15_ok {Z : Nat × (Nat → Int)} {d : Nat} (hd : 4 ≤ d) {q : Nat} (h0 : q ≠ 0) {v1 v3 : Int} {K1 : MM → OR} {res : AR × MM} (k1 : ∀ (M : MM) (j0 j1 j2 j3 j4 j5 : AV), M 0 17 = (q : Int) → K1  M = some res → EX Z d 56 148 [j0, j1, j2, j3, j4, j5] [] M res) : ∀ (n : Nat) (v4 : Int) (M : MM) (j5 : AV), M 0 17 = (q : Int) → srch_addRoads_L15 q v1 v3 K1 n v4 M = some res → EX Z d 56 15 [vR q, vJ v1, vU, vI v3, vI v4, j5] [] M res := by
  obtain ⟨e9, rfl⟩ : ∃ e9, d = e9 + 1 := ⟨d - 1, by omega⟩
  have hq0 : (q : Int) ≠ 0 := by omega
  intro n
  induction n with
  | zero =>
    intro v4 M j5 hq hf
    unfold srch_addRoads_L15 at hf
    cases hf
  | succ n ih =>
    intro v4 M j5 hq hf
    unfold srch_addRoads_L15 at hf
    refine ex_pu (ls' := [vR q, vJ v1, vU, vI v3, vI v4, j5]) (st' := [vI v4]) (dg dc56 11 rfl) rfl rfl ?_
    refine ex_pu (ls' := [vR q, vJ v1, vU, vI v3, vI v4, j5]) (st' := [vR q, vI v4]) (dg dc56 12 rfl) rfl rfl ?_
    refine ex_getF (dg dc56 13 rfl) rfl (LOC.sr (j := 0) hq h0 (by decide) rfl) rfl ?_
    refine ex_getI (dg dc56 14 rfl) rfl (LOC.st (Nat.le_of_ble_eq_true rfl) rfl) rfl ?_
    refine ex_icmp (t := 148) (dg dc56 15 rfl) rfl hf (fun _ hf => ?_) (fun _ hf => ?_)
    · exact k1  M _ _ _ _ _ _ hq hf
    · refine ex_pu (ls' := [vR q, vJ v1, vU, vI v3, vI v4, j5]) (st' := [vI v4]) (dg dc56 16 rfl) rfl rfl ?_
      refine ex_pu (ls' := [vR q, vJ v1, vU, vI v3, vI v4, j5]) (st' := [vI 16, vI v4]) (dg dc56 17 rfl) rfl rfl ?_
      refine ex_icmp (t := 148) (dg dc56 18 rfl) rfl hf (fun _ hf => ?_) (fun _ hf => ?_)
      · exact k1  M _ _ _ _ _ _ hq hf
      · refine ex_pu (ls' := [vR q, vJ v1, vU, vI v3, vI v4, j5]) (st' := [vR q]) (dg dc56 19 rfl) rfl rfl ?_
        refine ex_getF (dg dc56 20 rfl) rfl (LOC.sr (j := 0) hq h0 (by decide) rfl) rfl ?_
        refine ex_pu (ls' := [vR q, vJ v1, vU, vI v3, vI v4, j5]) (st' := [vI v4, vR 157]) (dg dc56 21 rfl) rfl rfl ?_
        refine ex_pu (ls' := [vR q, vJ v1, vU, vI v3, vI v4, j5]) (st' := [vR q, vI v4, vR 157]) (dg dc56 22 rfl) rfl rfl ?_
        refine ex_getI (dg dc56 23 rfl) rfl (LOC.sr (j := 0) hq h0 (by decide) rfl) rfl ?_
        refine ex_pu (ls' := [vR q, vJ v1, vU, vI v3, vI v4, j5]) (st' := [vI v3, vI (M 1000 11), vI v4, vR 157]) (dg dc56 24 rfl) rfl rfl ?_
        refine ex_pu (ls' := [vR q, vJ v1, vU, vI v3, vI v4, j5]) (st' := [vR q, vI v3, vI (M 1000 11), vI v4, vR 157]) (dg dc56 25 rfl) rfl rfl ?_
        refine ex_getI (dg dc56 26 rfl) rfl (LOC.sr (j := 0) hq h0 (by decide) rfl) rfl ?_
        refine ex_pu (ls' := [vR q, vJ v1, vU, vI v3, vI v4, j5]) (st' := [vR q, vI (M 1000 13), vI v3, vI (M 1000 11), vI v4, vR 157]) (dg dc56 27 rfl) rfl rfl ?_
        refine ex_getI (dg dc56 28 rfl) rfl (LOC.sr (j := 0) hq h0 (by decide) rfl) rfl ?_
        refine ex_pu (ls' := [vR q, vJ v1, vU, vI v3, vI v4, j5]) (st' := [vR q, vI (M 1000 12), vI (M 1000 13), vI v3, vI (M 1000 11), vI v4, vR 157]) (dg dc56 29 rfl) rfl rfl ?_
        refine ex_getF (dg dc56 30 rfl) rfl (LOC.sr (j := 0) hq h0 (by decide) rfl) rfl ?_
        refine ex_getI (dg dc56 31 rfl) rfl (LOC.st (Nat.le_of_ble_eq_true rfl) rfl) rfl ?_
        refine ex_pu (ls' := [vR q, vJ v1, vU, vI v3, vI v4, j5]) (st' := [vR q, vI (M 23 1), vI (M 1000 12), vI (M 1000 13), vI v3, vI (M 1000 11), vI v4, vR 157]) (dg dc56 32 rfl) rfl rfl ?_
        refine ex_getI (dg dc56 33 rfl) rfl (LOC.sr (j := 0) hq h0 (by decide) rfl) rfl ?_
        refine ex_pu (ls' := [vR q, vJ v1, vU, vI v3, vI v4, j5]) (st' := [vI ((M 23 1) + (M 1000 10)), vI (M 1000 12), vI (M 1000 13), vI v3, vI (M 1000 11), vI v4, vR 157]) (dg dc56 34 rfl) rfl rfl ?_
        refine ex_cI (vs := [vR 157, vI v4, vI (M 1000 11), vI v3, vI (M 1000 13), vI (M 1000 12), vI ((M 23 1) + (M 1000 10))]) (st' := []) (F := (stps_arrival v4 (M 1000 11) v3 (M 1000 13) (M 1000 12) ((M 23 1) + (M 1000 10)) M)) (Or.inr (Or.inl ⟨rfl, (dg dc56 35 rfl)⟩)) rfl rfl (rk1 (LOC.st (Nat.le_of_ble_eq_true rfl) rfl) rfl) rfl (fun _ r9 => stps_arrival_ok (Z := Z) (d := e9) (by omega)  r9) hf (fun z_3 M_2 he_1 hf => ?_)
        have hq_4 : M_2 0 17 = (q : Int) := ((stps_arrival_ok (Z := Z) (d := e9) (by omega)  he_1).1 (by rw [hq]; exact hq0)).trans hq
        refine ex_pu (ls' := [vR q, vJ v1, vU, vI v3, vI v4, vI z_3]) (st' := []) (dg dc56 36 rfl) rfl rfl ?_
        refine ex_pu (ls' := [vR q, vJ v1, vU, vI v3, vI v4, vI z_3]) (st' := [vI z_3]) (dg dc56 37 rfl) rfl rfl ?_
        refine ex_pu (ls' := [vR q, vJ v1, vU, vI v3, vI v4, vI z_3]) (st' := [vI (-1), vI z_3]) (dg dc56 38 rfl) rfl rfl ?_
        refine ex_icmp (t := 142) (dg dc56 39 rfl) rfl hf (fun _ hf => ?_) (fun _ hf => ?_)
        · refine ex_pu (ls' := [vR q, vJ v1, vU, vI v3, vI (v4 + 1), vI z_3]) (st' := []) (dg dc56 78 rfl) rfl rfl ?_
          refine ex_goto (t := 15) (dg dc56 79 rfl) rfl rfl ?_
          exact ih (v4 + 1) M_2 _ hq_4 hf
        · refine ex_pu (ls' := [vR q, vJ v1, vU, vI v3, vI v4, vI z_3]) (st' := [vI z_3]) (dg dc56 40 rfl) rfl rfl ?_
          refine ex_pu (ls' := [vR q, vJ v1, vU, vI v3, vI v4, vI z_3]) (st' := [vR q, vI z_3]) (dg dc56 41 rfl) rfl rfl ?_
          refine ex_getF (dg dc56 42 rfl) rfl (LOC.sr (j := 0) hq_4 h0 (by decide) rfl) rfl ?_
          refine ex_getI (dg dc56 43 rfl) rfl (LOC.st (Nat.le_of_ble_eq_true rfl) rfl) rfl ?_
          refine ex_pu (ls' := [vR q, vJ v1, vU, vI v3, vI v4, vI z_3]) (st' := [vI (z_3 - (M_2 23 1))]) (dg dc56 44 rfl) rfl rfl ?_
          refine ex_pu (ls' := [vR q, vJ v1, vU, vI v3, vI v4, vI z_3]) (st' := [vI 30, vI (z_3 - (M_2 23 1))]) (dg dc56 45 rfl) rfl rfl ?_
          refine ex_icmp (t := 142) (dg dc56 46 rfl) rfl hf (fun _ hf => ?_) (fun _ hf => ?_)
          · refine ex_pu (ls' := [vR q, vJ v1, vU, vI v3, vI (v4 + 1), vI z_3]) (st' := []) (dg dc56 78 rfl) rfl rfl ?_
            refine ex_goto (t := 15) (dg dc56 79 rfl) rfl rfl ?_
            exact ih (v4 + 1) M_2 _ hq_4 hf
          · refine ex_pu (ls' := [vR q, vJ v1, vU, vI v3, vI v4, vI z_3]) (st' := [vR q]) (dg dc56 47 rfl) rfl rfl ?_
            refine ex_pu (ls' := [vR q, vJ v1, vU, vI v3, vI v4, vI z_3]) (st' := [vJ v1, vR q]) (dg dc56 48 rfl) rfl rfl ?_
            refine ex_ldc2 (dg dc56 49 rfl) rfl ?_
            refine ex_pu (ls' := [vR q, vJ v1, vU, vI v3, vI v4, vI z_3]) (st' := [vJ (lAnd v1 140737488355327), vR q]) (dg dc56 50 rfl) rfl rfl ?_
            refine ex_pu (ls' := [vR q, vJ v1, vU, vI v3, vI v4, vI z_3]) (st' := [vR q, vJ (lAnd v1 140737488355327), vR q]) (dg dc56 51 rfl) rfl rfl ?_
            refine ex_getF (dg dc56 52 rfl) rfl (LOC.sr (j := 0) hq_4 h0 (by decide) rfl) rfl ?_
            refine ex_pu (ls' := [vR q, vJ v1, vU, vI v3, vI v4, vI z_3]) (st' := [vI v4, vR 3, vJ (lAnd v1 140737488355327), vR q]) (dg dc56 53 rfl) rfl rfl ?_
            refine ex_pu (ls' := [vR q, vJ v1, vU, vI v3, vI v4, vI z_3]) (st' := [vR q, vI v4, vR 3, vJ (lAnd v1 140737488355327), vR q]) (dg dc56 54 rfl) rfl rfl ?_
            refine ex_getI (dg dc56 55 rfl) rfl (LOC.sr (j := 0) hq_4 h0 (by decide) rfl) rfl ?_
            refine ex_cI (vs := [vR 3, vI v4, vI (M_2 1000 11)]) (st' := [vJ (lAnd v1 140737488355327), vR q]) (F := (land_otherEnd 3 v4 (M_2 1000 11) M_2)) (Or.inr (Or.inl ⟨rfl, (dg dc56 56 rfl)⟩)) rfl rfl (rk1 (LOC.st (Nat.le_of_ble_eq_true rfl) rfl) rfl) rfl (fun _ r9 => land_otherEnd_ok (Z := Z) (d := e9) (by omega) isLand3  r9) hf (fun z_7 M_6 he_5 hf => ?_)
            have hq_8 : M_6 0 17 = (q : Int) := ((land_otherEnd_ok (Z := Z) (d := e9) (by omega) isLand3  he_5).1 (by rw [hq_4]; exact hq0)).trans hq_4
            refine ex_pu (ls' := [vR q, vJ v1, vU, vI v3, vI v4, vI z_3]) (st' := [vJ (w32 z_7), vJ (lAnd v1 140737488355327), vR q]) (dg dc56 57 rfl) rfl rfl ?_
            refine ex_pu (ls' := [vR q, vJ v1, vU, vI v3, vI v4, vI z_3]) (st' := [vI 47, vJ (w32 z_7), vJ (lAnd v1 140737488355327), vR q]) (dg dc56 58 rfl) rfl rfl ?_
            refine ex_pu (ls' := [vR q, vJ v1, vU, vI v3, vI v4, vI z_3]) (st' := [vJ (lShl (w32 z_7) 47), vJ (lAnd v1 140737488355327), vR q]) (dg dc56 59 rfl) rfl rfl ?_
            refine ex_pu (ls' := [vR q, vJ v1, vU, vI v3, vI v4, vI z_3]) (st' := [vJ (lOr (lAnd v1 140737488355327) (lShl (w32 z_7) 47)), vR q]) (dg dc56 60 rfl) rfl rfl ?_
            refine ex_pu (ls' := [vR q, vJ v1, vU, vI v3, vI v4, vI z_3]) (st' := [vI v4, vJ (lOr (lAnd v1 140737488355327) (lShl (w32 z_7) 47)), vR q]) (dg dc56 61 rfl) rfl rfl ?_
            refine ex_pu (ls' := [vR q, vJ v1, vU, vI v3, vI v4, vI z_3]) (st' := [vI 1, vI v4, vJ (lOr (lAnd v1 140737488355327) (lShl (w32 z_7) 47)), vR q]) (dg dc56 62 rfl) rfl rfl ?_
            refine ex_pu (ls' := [vR q, vJ v1, vU, vI v3, vI v4, vI z_3]) (st' := [vI (v4 + 1), vJ (lOr (lAnd v1 140737488355327) (lShl (w32 z_7) 47)), vR q]) (dg dc56 63 rfl) rfl rfl ?_
            refine ex_pu (ls' := [vR q, vJ v1, vU, vI v3, vI v4, vI z_3]) (st' := [vJ (w32 (v4 + 1)), vJ (lOr (lAnd v1 140737488355327) (lShl (w32 z_7) 47)), vR q]) (dg dc56 64 rfl) rfl rfl ?_
            refine ex_pu (ls' := [vR q, vJ v1, vU, vI v3, vI v4, vI z_3]) (st' := [vI 51, vJ (w32 (v4 + 1)), vJ (lOr (lAnd v1 140737488355327) (lShl (w32 z_7) 47)), vR q]) (dg dc56 65 rfl) rfl rfl ?_
            refine ex_pu (ls' := [vR q, vJ v1, vU, vI v3, vI v4, vI z_3]) (st' := [vJ (lShl (w32 (v4 + 1)) 51), vJ (lOr (lAnd v1 140737488355327) (lShl (w32 z_7) 47)), vR q]) (dg dc56 66 rfl) rfl rfl ?_
            refine ex_pu (ls' := [vR q, vJ v1, vU, vI v3, vI v4, vI z_3]) (st' := [vJ (lOr (lOr (lAnd v1 140737488355327) (lShl (w32 z_7) 47)) (lShl (w32 (v4 + 1)) 51)), vR q]) (dg dc56 67 rfl) rfl rfl ?_
            refine ex_pu (ls' := [vR q, vJ v1, vU, vI v3, vI v4, vI z_3]) (st' := [vI z_3, vJ (lOr (lOr (lAnd v1 140737488355327) (lShl (w32 z_7) 47)) (lShl (w32 (v4 + 1)) 51)), vR q]) (dg dc56 68 rfl) rfl rfl ?_
            refine ex_pu (ls' := [vR q, vJ v1, vU, vI v3, vI v4, vI z_3]) (st' := [vR q, vI z_3, vJ (lOr (lOr (lAnd v1 140737488355327) (lShl (w32 z_7) 47)) (lShl (w32 (v4 + 1)) 51)), vR q]) (dg dc56 69 rfl) rfl rfl ?_
            refine ex_getF (dg dc56 70 rfl) rfl (LOC.sr (j := 0) hq_8 h0 (by decide) rfl) rfl ?_
            refine ex_getI (dg dc56 71 rfl) rfl (LOC.st (Nat.le_of_ble_eq_true rfl) rfl) rfl ?_
            refine ex_pu (ls' := [vR q, vJ v1, vU, vI v3, vI v4, vI z_3]) (st' := [vI (z_3 - (M_6 23 1)), vJ (lOr (lOr (lAnd v1 140737488355327) (lShl (w32 z_7) 47)) (lShl (w32 (v4 + 1)) 51)), vR q]) (dg dc56 72 rfl) rfl rfl ?_
            refine ex_pu (ls' := [vR q, vJ v1, vU, vI v3, vI v4, vI z_3]) (st' := [vJ (w32 (z_3 - (M_6 23 1))), vJ (lOr (lOr (lAnd v1 140737488355327) (lShl (w32 z_7) 47)) (lShl (w32 (v4 + 1)) 51)), vR q]) (dg dc56 73 rfl) rfl rfl ?_
            refine ex_pu (ls' := [vR q, vJ v1, vU, vI v3, vI v4, vI z_3]) (st' := [vI 56, vJ (w32 (z_3 - (M_6 23 1))), vJ (lOr (lOr (lAnd v1 140737488355327) (lShl (w32 z_7) 47)) (lShl (w32 (v4 + 1)) 51)), vR q]) (dg dc56 74 rfl) rfl rfl ?_
            refine ex_pu (ls' := [vR q, vJ v1, vU, vI v3, vI v4, vI z_3]) (st' := [vJ (lShl (w32 (z_3 - (M_6 23 1))) 56), vJ (lOr (lOr (lAnd v1 140737488355327) (lShl (w32 z_7) 47)) (lShl (w32 (v4 + 1)) 51)), vR q]) (dg dc56 75 rfl) rfl rfl ?_
            refine ex_pu (ls' := [vR q, vJ v1, vU, vI v3, vI v4, vI z_3]) (st' := [vJ (lOr (lOr (lOr (lAnd v1 140737488355327) (lShl (w32 z_7) 47)) (lShl (w32 (v4 + 1)) 51)) (lShl (w32 (z_3 - (M_6 23 1))) 56)), vR q]) (dg dc56 76 rfl) rfl rfl ?_
            refine ex_cV (vs := [vR q, vJ (lOr (lOr (lOr (lAnd v1 140737488355327) (lShl (w32 z_7) 47)) (lShl (w32 (v4 + 1)) 51)) (lShl (w32 (z_3 - (M_6 23 1))) 56))]) (st' := []) (F := (srch_add q (lOr (lOr (lOr (lAnd v1 140737488355327) (lShl (w32 z_7) 47)) (lShl (w32 (v4 + 1)) 51)) (lShl (w32 (z_3 - (M_6 23 1))) 56)) M_6)) (Or.inr (Or.inl ⟨rfl, (dg dc56 77 rfl)⟩)) rfl rfl (rk1 (LOC.sr (j := 0) hq_8 h0 (by decide) rfl) rfl) rfl (fun _ r9 => srch_add_ok (Z := Z) (d := e9) (by omega) hq_8 h0  r9) hf (fun M_10 he_9 hf => ?_)
            have hq_12 : M_10 0 17 = (q : Int) := ((srch_add_ok (Z := Z) (d := e9) (by omega) hq_8 h0  he_9).1 (by rw [hq_8]; exact hq0)).trans hq_8
            refine ex_pu (ls' := [vR q, vJ v1, vU, vI v3, vI (v4 + 1), vI z_3]) (st' := []) (dg dc56 78 rfl) rfl rfl ?_
            refine ex_goto (t := 15) (dg dc56 79 rfl) rfl rfl ?_
            exact ih (v4 + 1) M_10 _ hq_12 hf
def srch_addRoads (q : Nat) (v1 : Int) (M : MM) : OR :=
  (srch_addRoads_L15 q v1 ((lAnd (lUshr v1 51) 31) - 1) (fun M_13 => some (rV, M_13)) FU 0 M)
set_option maxRecDepth 4000 in
theorem srch_addRoads_ok {Z : Nat × (Nat → Int)} {d : Nat} (hd : 4 ≤ d) {M : MM} {q : Nat} (hq : M 0 17 = (q : Int)) (h0 : q ≠ 0) {v1 : Int} {res : AR × MM} (hf : srch_addRoads q v1 M = some res) : EX Z d 56 0 (ent 56 [vR q, vJ v1]) [] M res := by
  obtain ⟨e9, rfl⟩ : ∃ e9, d = e9 + 1 := ⟨d - 1, by omega⟩
  have hq0 : (q : Int) ≠ 0 := by omega
  unfold srch_addRoads at hf
  show EX Z _ 56 0 [vR q, vJ v1, vU, vU, vU, vU] [] M res
  refine ex_pu (ls' := [vR q, vJ v1, vU, vU, vU, vU]) (st' := [vJ v1]) (dg dc56 0 rfl) rfl rfl ?_
  refine ex_pu (ls' := [vR q, vJ v1, vU, vU, vU, vU]) (st' := [vI 51, vJ v1]) (dg dc56 1 rfl) rfl rfl ?_
  refine ex_pu (ls' := [vR q, vJ v1, vU, vU, vU, vU]) (st' := [vJ (lUshr v1 51)]) (dg dc56 2 rfl) rfl rfl ?_
  refine ex_ldc2 (dg dc56 3 rfl) rfl ?_
  refine ex_pu (ls' := [vR q, vJ v1, vU, vU, vU, vU]) (st' := [vJ (lAnd (lUshr v1 51) 31)]) (dg dc56 4 rfl) rfl rfl ?_
  refine ex_pu (ls' := [vR q, vJ v1, vU, vU, vU, vU]) (st' := [vI (lAnd (lUshr v1 51) 31)]) (dg dc56 5 rfl) rfl rfl ?_
  refine ex_pu (ls' := [vR q, vJ v1, vU, vU, vU, vU]) (st' := [vI 1, vI (lAnd (lUshr v1 51) 31)]) (dg dc56 6 rfl) rfl rfl ?_
  refine ex_pu (ls' := [vR q, vJ v1, vU, vU, vU, vU]) (st' := [vI ((lAnd (lUshr v1 51) 31) - 1)]) (dg dc56 7 rfl) rfl rfl ?_
  refine ex_pu (ls' := [vR q, vJ v1, vU, vI ((lAnd (lUshr v1 51) 31) - 1), vU, vU]) (st' := []) (dg dc56 8 rfl) rfl rfl ?_
  refine ex_pu (ls' := [vR q, vJ v1, vU, vI ((lAnd (lUshr v1 51) 31) - 1), vU, vU]) (st' := [vI 0]) (dg dc56 9 rfl) rfl rfl ?_
  refine ex_pu (ls' := [vR q, vJ v1, vU, vI ((lAnd (lUshr v1 51) 31) - 1), vI 0, vU]) (st' := []) (dg dc56 10 rfl) rfl rfl ?_
  refine srch_addRoads_L15_ok hd h0 ?_ FU 0 M _ hq hf
  · intro M_13 j0_15 j1_16 j2_17 j3_18 j4_19 j5_20 hq_14 hf
    exact ex_vre (dg dc56 80 rfl) rfl hf
-- GlassHill$Search.paid
def il59 : List (Nat × Instr × Nat) := [(0, .lload_n 1, 1), (1, .lconst 1, 1), (2, .bipush 30, 2), (4, .aload_n 0, 1), (5, .getfield 69, 3), (8, .iadd, 1), (9, .lshl, 1), (10, .lor, 1), (11, .lstore 4, 2), (13, .aload_n 0, 1), (14, .getfield 72, 3), (17, .istore 6, 2), (19, .aload_n 0, 1), (20, .getfield 36, 3), (23, .getfield 163, 3), (26, .aload_n 0, 1), (27, .getfield 69, 3), (30, .invokestatic 156, 3), (33, .iconst 1, 1), (34, .if_icmp .ne 32, 3), (37, .iload 6, 2), (39, .iconst 1, 1), (40, .iload_n 3, 1), (41, .ishl, 1), (42, .iconst (-1), 1), (43, .ixor, 1), (44, .iand, 1), (45, .istore 6, 2), (47, .lload 4, 2), (49, .lconst 1, 1), (50, .iload_n 3, 1), (51, .lshl, 1), (52, .ldc2_w 166, 3), (55, .lxor, 1), (56, .land, 1), (57, .lconst 1, 1), (58, .bipush 10, 2), (60, .iload_n 3, 1), (61, .iadd, 1), (62, .lshl, 1), (63, .lor, 1), (64, .lstore 4, 2), (66, .aload_n 0, 1), (67, .getfield 36, 3), (70, .getfield 168, 3), (73, .aload_n 0, 1), (74, .getfield 69, 3), (77, .iaload, 1), (78, .istore 7, 2), (80, .iload 7, 2), (82, .iconst (-1), 1), (83, .if_icmp .ne 6, 3), (86, .lload 4, 2), (88, .lreturn, 1), (89, .lload 4, 2), (91, .lconst 1, 1), (92, .iload 6, 2), (94, .invokestatic 171, 3), (97, .ifCond .eq 8, 3), (100, .iload 7, 2), (102, .goto 8, 3), (105, .bipush 20, 2), (107, .iload 7, 2), (109, .iadd, 1), (110, .lshl, 1), (111, .lor, 1), (112, .lreturn, 1)]
theorem dc59 : dcs (mC 59) il59 := dc_of (by decide +kernel)
def srch_paid_J66 (q : Nat)  (v4 v6 : Int) (M : MM) : OR :=
  (bif inB (M 1000 11) 10 then (bif cmpB .ne (M 8 ((M 1000 11)).toNat) (-1) then (bI (gh_hasRoom v6 M) fun z_7 M_6 => (bif cmpB .eq z_7 0 then some (rJ (lOr v4 (lShl 1 (20 + (M 8 ((M 1000 11)).toNat)))), M_6) else some (rJ (lOr v4 (lShl 1 (M 8 ((M 1000 11)).toNat))), M_6))) else some (rJ v4, M)) else none)
set_option maxRecDepth 4000 in
theorem srch_paid_J66_ok {Z : Nat × (Nat → Int)} {d : Nat} (hd : 2 ≤ d) {q : Nat} (h0 : q ≠ 0)  {res : AR × MM}  : ∀ (v4 v6 : Int) (M : MM) (j1 j2 j3 j7 : AV), M 0 17 = (q : Int) → srch_paid_J66 q  v4 v6 M = some res → EX Z d 59 66 [vR q, j1, j2, j3, vJ v4, vU, vI v6, j7] [] M res := by
  obtain ⟨e9, rfl⟩ : ∃ e9, d = e9 + 1 := ⟨d - 1, by omega⟩
  have hq0 : (q : Int) ≠ 0 := by omega
  intro v4 v6 M j1 j2 j3 j7 hq hf
  unfold srch_paid_J66 at hf
  refine ex_pu (ls' := [vR q, j1, j2, j3, vJ v4, vU, vI v6, j7]) (st' := [vR q]) (dg dc59 42 rfl) rfl rfl ?_
  refine ex_getF (dg dc59 43 rfl) rfl (LOC.sr (j := 0) hq h0 (by decide) rfl) rfl ?_
  refine ex_getO (dg dc59 44 rfl) rfl (LOC.st (Nat.le_of_ble_eq_true rfl) rfl) rfl ?_
  show EX Z _ 59 _ [vR q, j1, j2, j3, vJ v4, vU, vI v6, j7] [vR 8] _ _
  refine ex_pu (ls' := [vR q, j1, j2, j3, vJ v4, vU, vI v6, j7]) (st' := [vR q, vR 8]) (dg dc59 45 rfl) rfl rfl ?_
  refine ex_getI (dg dc59 46 rfl) rfl (LOC.sr (j := 0) hq h0 (by decide) rfl) rfl ?_
  refine ex_iald (dg dc59 47 rfl) (LOC.st (Nat.le_of_ble_eq_true rfl) rfl) rfl hf (fun _ hf => ?_)
  refine ex_pu (ls' := [vR q, j1, j2, j3, vJ v4, vU, vI v6, vI (M 8 ((M 1000 11)).toNat)]) (st' := []) (dg dc59 48 rfl) rfl rfl ?_
  refine ex_pu (ls' := [vR q, j1, j2, j3, vJ v4, vU, vI v6, vI (M 8 ((M 1000 11)).toNat)]) (st' := [vI (M 8 ((M 1000 11)).toNat)]) (dg dc59 49 rfl) rfl rfl ?_
  refine ex_pu (ls' := [vR q, j1, j2, j3, vJ v4, vU, vI v6, vI (M 8 ((M 1000 11)).toNat)]) (st' := [vI (-1), vI (M 8 ((M 1000 11)).toNat)]) (dg dc59 50 rfl) rfl rfl ?_
  refine ex_icmp (t := 89) (dg dc59 51 rfl) rfl hf (fun _ hf => ?_) (fun _ hf => ?_)
  · refine ex_pu (ls' := [vR q, j1, j2, j3, vJ v4, vU, vI v6, vI (M 8 ((M 1000 11)).toNat)]) (st' := [vJ v4]) (dg dc59 54 rfl) rfl rfl ?_
    refine ex_pu (ls' := [vR q, j1, j2, j3, vJ v4, vU, vI v6, vI (M 8 ((M 1000 11)).toNat)]) (st' := [vJ 1, vJ v4]) (dg dc59 55 rfl) rfl rfl ?_
    refine ex_pu (ls' := [vR q, j1, j2, j3, vJ v4, vU, vI v6, vI (M 8 ((M 1000 11)).toNat)]) (st' := [vI v6, vJ 1, vJ v4]) (dg dc59 56 rfl) rfl rfl ?_
    refine ex_cI (vs := [vI v6]) (st' := [vJ 1, vJ v4]) (F := (gh_hasRoom v6 M)) (Or.inl ⟨rfl, (dg dc59 57 rfl)⟩) rfl rfl (Or.inl rfl) rfl (fun _ r9 => gh_hasRoom_ok (Z := Z) (d := e9) (by omega)  r9) hf (fun z_7 M_6 he_5 hf => ?_)
    have hq_8 : M_6 0 17 = (q : Int) := ((gh_hasRoom_ok (Z := Z) (d := e9) (by omega)  he_5).1 (by rw [hq]; exact hq0)).trans hq
    refine ex_if (t := 105) (dg dc59 58 rfl) rfl hf (fun _ hf => ?_) (fun _ hf => ?_)
    · refine ex_pu (ls' := [vR q, j1, j2, j3, vJ v4, vU, vI v6, vI (M 8 ((M 1000 11)).toNat)]) (st' := [vI 20, vJ 1, vJ v4]) (dg dc59 61 rfl) rfl rfl ?_
      refine ex_pu (ls' := [vR q, j1, j2, j3, vJ v4, vU, vI v6, vI (M 8 ((M 1000 11)).toNat)]) (st' := [vI (M 8 ((M 1000 11)).toNat), vI 20, vJ 1, vJ v4]) (dg dc59 62 rfl) rfl rfl ?_
      refine ex_pu (ls' := [vR q, j1, j2, j3, vJ v4, vU, vI v6, vI (M 8 ((M 1000 11)).toNat)]) (st' := [vI (20 + (M 8 ((M 1000 11)).toNat)), vJ 1, vJ v4]) (dg dc59 63 rfl) rfl rfl ?_
      refine ex_pu (ls' := [vR q, j1, j2, j3, vJ v4, vU, vI v6, vI (M 8 ((M 1000 11)).toNat)]) (st' := [vJ (lShl 1 (20 + (M 8 ((M 1000 11)).toNat))), vJ v4]) (dg dc59 64 rfl) rfl rfl ?_
      refine ex_pu (ls' := [vR q, j1, j2, j3, vJ v4, vU, vI v6, vI (M 8 ((M 1000 11)).toNat)]) (st' := [vJ (lOr v4 (lShl 1 (20 + (M 8 ((M 1000 11)).toNat))))]) (dg dc59 65 rfl) rfl rfl ?_
      exact ex_jre (dg dc59 66 rfl) rfl hf
    · refine ex_pu (ls' := [vR q, j1, j2, j3, vJ v4, vU, vI v6, vI (M 8 ((M 1000 11)).toNat)]) (st' := [vI (M 8 ((M 1000 11)).toNat), vJ 1, vJ v4]) (dg dc59 59 rfl) rfl rfl ?_
      refine ex_goto (t := 110) (dg dc59 60 rfl) rfl rfl ?_
      refine ex_pu (ls' := [vR q, j1, j2, j3, vJ v4, vU, vI v6, vI (M 8 ((M 1000 11)).toNat)]) (st' := [vJ (lShl 1 (M 8 ((M 1000 11)).toNat)), vJ v4]) (dg dc59 64 rfl) rfl rfl ?_
      refine ex_pu (ls' := [vR q, j1, j2, j3, vJ v4, vU, vI v6, vI (M 8 ((M 1000 11)).toNat)]) (st' := [vJ (lOr v4 (lShl 1 (M 8 ((M 1000 11)).toNat)))]) (dg dc59 65 rfl) rfl rfl ?_
      exact ex_jre (dg dc59 66 rfl) rfl hf
  · refine ex_pu (ls' := [vR q, j1, j2, j3, vJ v4, vU, vI v6, vI (M 8 ((M 1000 11)).toNat)]) (st' := [vJ v4]) (dg dc59 52 rfl) rfl rfl ?_
    exact ex_jre (dg dc59 53 rfl) rfl hf
def srch_paid (q : Nat) (v1 : Int) (v3 : Int) (M : MM) : OR :=
  (bI (gh_bit (M 3 6) (M 1000 11) M) fun z_3 M_2 => (bif cmpB .ne z_3 1 then (srch_paid_J66 q  (lOr v1 (lShl 1 (30 + (M 1000 11)))) (M 1000 12) M_2) else (srch_paid_J66 q  (lOr (lAnd (lOr v1 (lShl 1 (30 + (M 1000 11)))) (lXor (lShl 1 v3) (-1))) (lShl 1 (10 + v3))) (iAnd (M 1000 12) (iXor (iShl 1 v3) (-1))) M_2)))
set_option maxRecDepth 4000 in
theorem srch_paid_ok {Z : Nat × (Nat → Int)} {d : Nat} (hd : 2 ≤ d) {M : MM} {q : Nat} (hq : M 0 17 = (q : Int)) (h0 : q ≠ 0) {v1 v3 : Int} {res : AR × MM} (hf : srch_paid q v1 v3 M = some res) : EX Z d 59 0 (ent 59 [vR q, vJ v1, vI v3]) [] M res := by
  obtain ⟨e9, rfl⟩ : ∃ e9, d = e9 + 1 := ⟨d - 1, by omega⟩
  have hq0 : (q : Int) ≠ 0 := by omega
  unfold srch_paid at hf
  show EX Z _ 59 0 [vR q, vJ v1, vU, vI v3, vU, vU, vU, vU] [] M res
  refine ex_pu (ls' := [vR q, vJ v1, vU, vI v3, vU, vU, vU, vU]) (st' := [vJ v1]) (dg dc59 0 rfl) rfl rfl ?_
  refine ex_pu (ls' := [vR q, vJ v1, vU, vI v3, vU, vU, vU, vU]) (st' := [vJ 1, vJ v1]) (dg dc59 1 rfl) rfl rfl ?_
  refine ex_pu (ls' := [vR q, vJ v1, vU, vI v3, vU, vU, vU, vU]) (st' := [vI 30, vJ 1, vJ v1]) (dg dc59 2 rfl) rfl rfl ?_
  refine ex_pu (ls' := [vR q, vJ v1, vU, vI v3, vU, vU, vU, vU]) (st' := [vR q, vI 30, vJ 1, vJ v1]) (dg dc59 3 rfl) rfl rfl ?_
  refine ex_getI (dg dc59 4 rfl) rfl (LOC.sr (j := 0) hq h0 (by decide) rfl) rfl ?_
  refine ex_pu (ls' := [vR q, vJ v1, vU, vI v3, vU, vU, vU, vU]) (st' := [vI (30 + (M 1000 11)), vJ 1, vJ v1]) (dg dc59 5 rfl) rfl rfl ?_
  refine ex_pu (ls' := [vR q, vJ v1, vU, vI v3, vU, vU, vU, vU]) (st' := [vJ (lShl 1 (30 + (M 1000 11))), vJ v1]) (dg dc59 6 rfl) rfl rfl ?_
  refine ex_pu (ls' := [vR q, vJ v1, vU, vI v3, vU, vU, vU, vU]) (st' := [vJ (lOr v1 (lShl 1 (30 + (M 1000 11))))]) (dg dc59 7 rfl) rfl rfl ?_
  refine ex_pu (ls' := [vR q, vJ v1, vU, vI v3, vJ (lOr v1 (lShl 1 (30 + (M 1000 11)))), vU, vU, vU]) (st' := []) (dg dc59 8 rfl) rfl rfl ?_
  refine ex_pu (ls' := [vR q, vJ v1, vU, vI v3, vJ (lOr v1 (lShl 1 (30 + (M 1000 11)))), vU, vU, vU]) (st' := [vR q]) (dg dc59 9 rfl) rfl rfl ?_
  refine ex_getI (dg dc59 10 rfl) rfl (LOC.sr (j := 0) hq h0 (by decide) rfl) rfl ?_
  refine ex_pu (ls' := [vR q, vJ v1, vU, vI v3, vJ (lOr v1 (lShl 1 (30 + (M 1000 11)))), vU, vI (M 1000 12), vU]) (st' := []) (dg dc59 11 rfl) rfl rfl ?_
  refine ex_pu (ls' := [vR q, vJ v1, vU, vI v3, vJ (lOr v1 (lShl 1 (30 + (M 1000 11)))), vU, vI (M 1000 12), vU]) (st' := [vR q]) (dg dc59 12 rfl) rfl rfl ?_
  refine ex_getF (dg dc59 13 rfl) rfl (LOC.sr (j := 0) hq h0 (by decide) rfl) rfl ?_
  refine ex_getI (dg dc59 14 rfl) rfl (LOC.st (Nat.le_of_ble_eq_true rfl) rfl) rfl ?_
  refine ex_pu (ls' := [vR q, vJ v1, vU, vI v3, vJ (lOr v1 (lShl 1 (30 + (M 1000 11)))), vU, vI (M 1000 12), vU]) (st' := [vR q, vI (M 3 6)]) (dg dc59 15 rfl) rfl rfl ?_
  refine ex_getI (dg dc59 16 rfl) rfl (LOC.sr (j := 0) hq h0 (by decide) rfl) rfl ?_
  refine ex_cI (vs := [vI (M 3 6), vI (M 1000 11)]) (st' := []) (F := (gh_bit (M 3 6) (M 1000 11) M)) (Or.inl ⟨rfl, (dg dc59 17 rfl)⟩) rfl rfl (Or.inl rfl) rfl (fun _ r9 => gh_bit_ok (Z := Z) (d := e9) (by omega)  r9) hf (fun z_3 M_2 he_1 hf => ?_)
  have hq_4 : M_2 0 17 = (q : Int) := ((gh_bit_ok (Z := Z) (d := e9) (by omega)  he_1).1 (by rw [hq]; exact hq0)).trans hq
  refine ex_pu (ls' := [vR q, vJ v1, vU, vI v3, vJ (lOr v1 (lShl 1 (30 + (M 1000 11)))), vU, vI (M 1000 12), vU]) (st' := [vI 1, vI z_3]) (dg dc59 18 rfl) rfl rfl ?_
  refine ex_icmp (t := 66) (dg dc59 19 rfl) rfl hf (fun _ hf => ?_) (fun _ hf => ?_)
  · exact srch_paid_J66_ok hd h0  (lOr v1 (lShl 1 (30 + (M 1000 11)))) (M 1000 12) M_2 _ _ _ _ hq_4 hf
  · refine ex_pu (ls' := [vR q, vJ v1, vU, vI v3, vJ (lOr v1 (lShl 1 (30 + (M 1000 11)))), vU, vI (M 1000 12), vU]) (st' := [vI (M 1000 12)]) (dg dc59 20 rfl) rfl rfl ?_
    refine ex_pu (ls' := [vR q, vJ v1, vU, vI v3, vJ (lOr v1 (lShl 1 (30 + (M 1000 11)))), vU, vI (M 1000 12), vU]) (st' := [vI 1, vI (M 1000 12)]) (dg dc59 21 rfl) rfl rfl ?_
    refine ex_pu (ls' := [vR q, vJ v1, vU, vI v3, vJ (lOr v1 (lShl 1 (30 + (M 1000 11)))), vU, vI (M 1000 12), vU]) (st' := [vI v3, vI 1, vI (M 1000 12)]) (dg dc59 22 rfl) rfl rfl ?_
    refine ex_pu (ls' := [vR q, vJ v1, vU, vI v3, vJ (lOr v1 (lShl 1 (30 + (M 1000 11)))), vU, vI (M 1000 12), vU]) (st' := [vI (iShl 1 v3), vI (M 1000 12)]) (dg dc59 23 rfl) rfl rfl ?_
    refine ex_pu (ls' := [vR q, vJ v1, vU, vI v3, vJ (lOr v1 (lShl 1 (30 + (M 1000 11)))), vU, vI (M 1000 12), vU]) (st' := [vI (-1), vI (iShl 1 v3), vI (M 1000 12)]) (dg dc59 24 rfl) rfl rfl ?_
    refine ex_pu (ls' := [vR q, vJ v1, vU, vI v3, vJ (lOr v1 (lShl 1 (30 + (M 1000 11)))), vU, vI (M 1000 12), vU]) (st' := [vI (iXor (iShl 1 v3) (-1)), vI (M 1000 12)]) (dg dc59 25 rfl) rfl rfl ?_
    refine ex_pu (ls' := [vR q, vJ v1, vU, vI v3, vJ (lOr v1 (lShl 1 (30 + (M 1000 11)))), vU, vI (M 1000 12), vU]) (st' := [vI (iAnd (M 1000 12) (iXor (iShl 1 v3) (-1)))]) (dg dc59 26 rfl) rfl rfl ?_
    refine ex_pu (ls' := [vR q, vJ v1, vU, vI v3, vJ (lOr v1 (lShl 1 (30 + (M 1000 11)))), vU, vI (iAnd (M 1000 12) (iXor (iShl 1 v3) (-1))), vU]) (st' := []) (dg dc59 27 rfl) rfl rfl ?_
    refine ex_pu (ls' := [vR q, vJ v1, vU, vI v3, vJ (lOr v1 (lShl 1 (30 + (M 1000 11)))), vU, vI (iAnd (M 1000 12) (iXor (iShl 1 v3) (-1))), vU]) (st' := [vJ (lOr v1 (lShl 1 (30 + (M 1000 11))))]) (dg dc59 28 rfl) rfl rfl ?_
    refine ex_pu (ls' := [vR q, vJ v1, vU, vI v3, vJ (lOr v1 (lShl 1 (30 + (M 1000 11)))), vU, vI (iAnd (M 1000 12) (iXor (iShl 1 v3) (-1))), vU]) (st' := [vJ 1, vJ (lOr v1 (lShl 1 (30 + (M 1000 11))))]) (dg dc59 29 rfl) rfl rfl ?_
    refine ex_pu (ls' := [vR q, vJ v1, vU, vI v3, vJ (lOr v1 (lShl 1 (30 + (M 1000 11)))), vU, vI (iAnd (M 1000 12) (iXor (iShl 1 v3) (-1))), vU]) (st' := [vI v3, vJ 1, vJ (lOr v1 (lShl 1 (30 + (M 1000 11))))]) (dg dc59 30 rfl) rfl rfl ?_
    refine ex_pu (ls' := [vR q, vJ v1, vU, vI v3, vJ (lOr v1 (lShl 1 (30 + (M 1000 11)))), vU, vI (iAnd (M 1000 12) (iXor (iShl 1 v3) (-1))), vU]) (st' := [vJ (lShl 1 v3), vJ (lOr v1 (lShl 1 (30 + (M 1000 11))))]) (dg dc59 31 rfl) rfl rfl ?_
    refine ex_ldc2 (dg dc59 32 rfl) rfl ?_
    refine ex_pu (ls' := [vR q, vJ v1, vU, vI v3, vJ (lOr v1 (lShl 1 (30 + (M 1000 11)))), vU, vI (iAnd (M 1000 12) (iXor (iShl 1 v3) (-1))), vU]) (st' := [vJ (lXor (lShl 1 v3) (-1)), vJ (lOr v1 (lShl 1 (30 + (M 1000 11))))]) (dg dc59 33 rfl) rfl rfl ?_
    refine ex_pu (ls' := [vR q, vJ v1, vU, vI v3, vJ (lOr v1 (lShl 1 (30 + (M 1000 11)))), vU, vI (iAnd (M 1000 12) (iXor (iShl 1 v3) (-1))), vU]) (st' := [vJ (lAnd (lOr v1 (lShl 1 (30 + (M 1000 11)))) (lXor (lShl 1 v3) (-1)))]) (dg dc59 34 rfl) rfl rfl ?_
    refine ex_pu (ls' := [vR q, vJ v1, vU, vI v3, vJ (lOr v1 (lShl 1 (30 + (M 1000 11)))), vU, vI (iAnd (M 1000 12) (iXor (iShl 1 v3) (-1))), vU]) (st' := [vJ 1, vJ (lAnd (lOr v1 (lShl 1 (30 + (M 1000 11)))) (lXor (lShl 1 v3) (-1)))]) (dg dc59 35 rfl) rfl rfl ?_
    refine ex_pu (ls' := [vR q, vJ v1, vU, vI v3, vJ (lOr v1 (lShl 1 (30 + (M 1000 11)))), vU, vI (iAnd (M 1000 12) (iXor (iShl 1 v3) (-1))), vU]) (st' := [vI 10, vJ 1, vJ (lAnd (lOr v1 (lShl 1 (30 + (M 1000 11)))) (lXor (lShl 1 v3) (-1)))]) (dg dc59 36 rfl) rfl rfl ?_
    refine ex_pu (ls' := [vR q, vJ v1, vU, vI v3, vJ (lOr v1 (lShl 1 (30 + (M 1000 11)))), vU, vI (iAnd (M 1000 12) (iXor (iShl 1 v3) (-1))), vU]) (st' := [vI v3, vI 10, vJ 1, vJ (lAnd (lOr v1 (lShl 1 (30 + (M 1000 11)))) (lXor (lShl 1 v3) (-1)))]) (dg dc59 37 rfl) rfl rfl ?_
    refine ex_pu (ls' := [vR q, vJ v1, vU, vI v3, vJ (lOr v1 (lShl 1 (30 + (M 1000 11)))), vU, vI (iAnd (M 1000 12) (iXor (iShl 1 v3) (-1))), vU]) (st' := [vI (10 + v3), vJ 1, vJ (lAnd (lOr v1 (lShl 1 (30 + (M 1000 11)))) (lXor (lShl 1 v3) (-1)))]) (dg dc59 38 rfl) rfl rfl ?_
    refine ex_pu (ls' := [vR q, vJ v1, vU, vI v3, vJ (lOr v1 (lShl 1 (30 + (M 1000 11)))), vU, vI (iAnd (M 1000 12) (iXor (iShl 1 v3) (-1))), vU]) (st' := [vJ (lShl 1 (10 + v3)), vJ (lAnd (lOr v1 (lShl 1 (30 + (M 1000 11)))) (lXor (lShl 1 v3) (-1)))]) (dg dc59 39 rfl) rfl rfl ?_
    refine ex_pu (ls' := [vR q, vJ v1, vU, vI v3, vJ (lOr v1 (lShl 1 (30 + (M 1000 11)))), vU, vI (iAnd (M 1000 12) (iXor (iShl 1 v3) (-1))), vU]) (st' := [vJ (lOr (lAnd (lOr v1 (lShl 1 (30 + (M 1000 11)))) (lXor (lShl 1 v3) (-1))) (lShl 1 (10 + v3)))]) (dg dc59 40 rfl) rfl rfl ?_
    refine ex_pu (ls' := [vR q, vJ v1, vU, vI v3, vJ (lOr (lAnd (lOr v1 (lShl 1 (30 + (M 1000 11)))) (lXor (lShl 1 v3) (-1))) (lShl 1 (10 + v3))), vU, vI (iAnd (M 1000 12) (iXor (iShl 1 v3) (-1))), vU]) (st' := []) (dg dc59 41 rfl) rfl rfl ?_
    exact srch_paid_J66_ok hd h0  (lOr (lAnd (lOr v1 (lShl 1 (30 + (M 1000 11)))) (lXor (lShl 1 v3) (-1))) (lShl 1 (10 + v3))) (iAnd (M 1000 12) (iXor (iShl 1 v3) (-1))) M_2 _ _ _ _ hq_4 hf
-- GlassHill$Search.addTakes
def il60 : List (Nat × Instr × Nat) := [(0, .aload_n 0, 1), (1, .getfield 72, 3), (4, .invokestatic 171, 3), (7, .ifCond .ne 4, 3), (10, .return_, 1), (11, .aload_n 0, 1), (12, .getfield 72, 3), (15, .lload_n 1, 1), (16, .bipush 10, 2), (18, .lushr, 1), (19, .l2i, 1), (20, .sipush 1023, 3), (23, .iand, 1), (24, .ior, 1), (25, .istore_n 3, 1), (26, .lload_n 1, 1), (27, .bipush 20, 2), (29, .lushr, 1), (30, .l2i, 1), (31, .sipush 1023, 3), (34, .iand, 1), (35, .istore 4, 2), (37, .aload_n 0, 1), (38, .getfield 36, 3), (41, .aload_n 0, 1), (42, .getfield 69, 3), (45, .invokevirtual 175, 3), (48, .ifCond .eq 18, 3), (51, .aload_n 0, 1), (52, .getfield 36, 3), (55, .getfield 168, 3), (58, .aload_n 0, 1), (59, .getfield 69, 3), (62, .iaload, 1), (63, .goto 4, 3), (66, .iconst (-1), 1), (67, .istore 5, 2), (69, .aload_n 0, 1), (70, .getfield 33, 3), (73, .aload_n 0, 1), (74, .getfield 69, 3), (77, .iaload, 1), (78, .iload_n 3, 1), (79, .iconst (-1), 1), (80, .ixor, 1), (81, .iand, 1), (82, .iload 5, 2), (84, .iconst (-1), 1), (85, .if_icmp .ne 7, 3), (88, .iconst 0, 1), (89, .goto 10, 3), (92, .iload 4, 2), (94, .iconst 1, 1), (95, .iload 5, 2), (97, .ishl, 1), (98, .iand, 1), (99, .ior, 1), (100, .istore 6, 2), (102, .iconst 0, 1), (103, .istore 7, 2), (105, .iload 7, 2), (107, .bipush 10, 2), (109, .if_icmp .ge 42, 3), (112, .iload 6, 2), (114, .iload 7, 2), (116, .invokestatic 156, 3), (119, .iconst 1, 1), (120, .if_icmp .ne 25, 3), (123, .aload_n 0, 1), (124, .lload_n 1, 1), (125, .lconst 1, 1), (126, .bipush 20, 2), (128, .iload 7, 2), (130, .iadd, 1), (131, .lshl, 1), (132, .ldc2_w 166, 3), (135, .lxor, 1), (136, .land, 1), (137, .lconst 1, 1), (138, .iload 7, 2), (140, .lshl, 1), (141, .lor, 1), (142, .invokevirtual 55, 3), (145, .iinc 7 1, 3), (148, .goto (-43), 3), (151, .return_, 1)]
theorem dc60 : dcs (mC 60) il60 := dc_of (by decide +kernel)
def srch_addTakes_L105 (q : Nat) (v1 v6 : Int) (K1 : MM → OR) : Nat → Int → MM → OR
  | 0, _, _ => none
  | n + 1, v7, M => (bif cmpB .ge v7 10 then (K1  M) else (bI (gh_bit v6 v7 M) fun z_12 M_11 => (bif cmpB .ne z_12 1 then (srch_addTakes_L105 q v1 v6 K1 n (v7 + 1) M_11) else (bV (srch_add q (lOr (lAnd v1 (lXor (lShl 1 (20 + v7)) (-1))) (lShl 1 v7)) M_11) fun M_15 => (srch_addTakes_L105 q v1 v6 K1 n (v7 + 1) M_15)))))
set_option maxRecDepth 4000 in
theorem srch_addTakes_L105_ok {Z : Nat × (Nat → Int)} {d : Nat} (hd : 2 ≤ d) {q : Nat} (h0 : q ≠ 0) {v1 v6 : Int} {K1 : MM → OR} {res : AR × MM} (k1 : ∀ (M : MM) (j0 j1 j2 j3 j4 j5 j6 j7 : AV), M 0 17 = (q : Int) → K1  M = some res → EX Z d 60 151 [j0, j1, j2, j3, j4, j5, j6, j7] [] M res) : ∀ (n : Nat) (v7 : Int) (M : MM) (j3 j4 j5 : AV), M 0 17 = (q : Int) → srch_addTakes_L105 q v1 v6 K1 n v7 M = some res → EX Z d 60 105 [vR q, vJ v1, vU, j3, j4, j5, vI v6, vI v7] [] M res := by
  obtain ⟨e9, rfl⟩ : ∃ e9, d = e9 + 1 := ⟨d - 1, by omega⟩
  have hq0 : (q : Int) ≠ 0 := by omega
  intro n
  induction n with
  | zero =>
    intro v7 M j3 j4 j5 hq hf
    unfold srch_addTakes_L105 at hf
    cases hf
  | succ n ih =>
    intro v7 M j3 j4 j5 hq hf
    unfold srch_addTakes_L105 at hf
    refine ex_pu (ls' := [vR q, vJ v1, vU, j3, j4, j5, vI v6, vI v7]) (st' := [vI v7]) (dg dc60 60 rfl) rfl rfl ?_
    refine ex_pu (ls' := [vR q, vJ v1, vU, j3, j4, j5, vI v6, vI v7]) (st' := [vI 10, vI v7]) (dg dc60 61 rfl) rfl rfl ?_
    refine ex_icmp (t := 151) (dg dc60 62 rfl) rfl hf (fun _ hf => ?_) (fun _ hf => ?_)
    · exact k1  M _ _ _ _ _ _ _ _ hq hf
    · refine ex_pu (ls' := [vR q, vJ v1, vU, j3, j4, j5, vI v6, vI v7]) (st' := [vI v6]) (dg dc60 63 rfl) rfl rfl ?_
      refine ex_pu (ls' := [vR q, vJ v1, vU, j3, j4, j5, vI v6, vI v7]) (st' := [vI v7, vI v6]) (dg dc60 64 rfl) rfl rfl ?_
      refine ex_cI (vs := [vI v6, vI v7]) (st' := []) (F := (gh_bit v6 v7 M)) (Or.inl ⟨rfl, (dg dc60 65 rfl)⟩) rfl rfl (Or.inl rfl) rfl (fun _ r9 => gh_bit_ok (Z := Z) (d := e9) (by omega)  r9) hf (fun z_12 M_11 he_10 hf => ?_)
      have hq_13 : M_11 0 17 = (q : Int) := ((gh_bit_ok (Z := Z) (d := e9) (by omega)  he_10).1 (by rw [hq]; exact hq0)).trans hq
      refine ex_pu (ls' := [vR q, vJ v1, vU, j3, j4, j5, vI v6, vI v7]) (st' := [vI 1, vI z_12]) (dg dc60 66 rfl) rfl rfl ?_
      refine ex_icmp (t := 145) (dg dc60 67 rfl) rfl hf (fun _ hf => ?_) (fun _ hf => ?_)
      · refine ex_pu (ls' := [vR q, vJ v1, vU, j3, j4, j5, vI v6, vI (v7 + 1)]) (st' := []) (dg dc60 83 rfl) rfl rfl ?_
        refine ex_goto (t := 105) (dg dc60 84 rfl) rfl rfl ?_
        exact ih (v7 + 1) M_11 _ _ _ hq_13 hf
      · refine ex_pu (ls' := [vR q, vJ v1, vU, j3, j4, j5, vI v6, vI v7]) (st' := [vR q]) (dg dc60 68 rfl) rfl rfl ?_
        refine ex_pu (ls' := [vR q, vJ v1, vU, j3, j4, j5, vI v6, vI v7]) (st' := [vJ v1, vR q]) (dg dc60 69 rfl) rfl rfl ?_
        refine ex_pu (ls' := [vR q, vJ v1, vU, j3, j4, j5, vI v6, vI v7]) (st' := [vJ 1, vJ v1, vR q]) (dg dc60 70 rfl) rfl rfl ?_
        refine ex_pu (ls' := [vR q, vJ v1, vU, j3, j4, j5, vI v6, vI v7]) (st' := [vI 20, vJ 1, vJ v1, vR q]) (dg dc60 71 rfl) rfl rfl ?_
        refine ex_pu (ls' := [vR q, vJ v1, vU, j3, j4, j5, vI v6, vI v7]) (st' := [vI v7, vI 20, vJ 1, vJ v1, vR q]) (dg dc60 72 rfl) rfl rfl ?_
        refine ex_pu (ls' := [vR q, vJ v1, vU, j3, j4, j5, vI v6, vI v7]) (st' := [vI (20 + v7), vJ 1, vJ v1, vR q]) (dg dc60 73 rfl) rfl rfl ?_
        refine ex_pu (ls' := [vR q, vJ v1, vU, j3, j4, j5, vI v6, vI v7]) (st' := [vJ (lShl 1 (20 + v7)), vJ v1, vR q]) (dg dc60 74 rfl) rfl rfl ?_
        refine ex_ldc2 (dg dc60 75 rfl) rfl ?_
        refine ex_pu (ls' := [vR q, vJ v1, vU, j3, j4, j5, vI v6, vI v7]) (st' := [vJ (lXor (lShl 1 (20 + v7)) (-1)), vJ v1, vR q]) (dg dc60 76 rfl) rfl rfl ?_
        refine ex_pu (ls' := [vR q, vJ v1, vU, j3, j4, j5, vI v6, vI v7]) (st' := [vJ (lAnd v1 (lXor (lShl 1 (20 + v7)) (-1))), vR q]) (dg dc60 77 rfl) rfl rfl ?_
        refine ex_pu (ls' := [vR q, vJ v1, vU, j3, j4, j5, vI v6, vI v7]) (st' := [vJ 1, vJ (lAnd v1 (lXor (lShl 1 (20 + v7)) (-1))), vR q]) (dg dc60 78 rfl) rfl rfl ?_
        refine ex_pu (ls' := [vR q, vJ v1, vU, j3, j4, j5, vI v6, vI v7]) (st' := [vI v7, vJ 1, vJ (lAnd v1 (lXor (lShl 1 (20 + v7)) (-1))), vR q]) (dg dc60 79 rfl) rfl rfl ?_
        refine ex_pu (ls' := [vR q, vJ v1, vU, j3, j4, j5, vI v6, vI v7]) (st' := [vJ (lShl 1 v7), vJ (lAnd v1 (lXor (lShl 1 (20 + v7)) (-1))), vR q]) (dg dc60 80 rfl) rfl rfl ?_
        refine ex_pu (ls' := [vR q, vJ v1, vU, j3, j4, j5, vI v6, vI v7]) (st' := [vJ (lOr (lAnd v1 (lXor (lShl 1 (20 + v7)) (-1))) (lShl 1 v7)), vR q]) (dg dc60 81 rfl) rfl rfl ?_
        refine ex_cV (vs := [vR q, vJ (lOr (lAnd v1 (lXor (lShl 1 (20 + v7)) (-1))) (lShl 1 v7))]) (st' := []) (F := (srch_add q (lOr (lAnd v1 (lXor (lShl 1 (20 + v7)) (-1))) (lShl 1 v7)) M_11)) (Or.inr (Or.inl ⟨rfl, (dg dc60 82 rfl)⟩)) rfl rfl (rk1 (LOC.sr (j := 0) hq_13 h0 (by decide) rfl) rfl) rfl (fun _ r9 => srch_add_ok (Z := Z) (d := e9) (by omega) hq_13 h0  r9) hf (fun M_15 he_14 hf => ?_)
        have hq_17 : M_15 0 17 = (q : Int) := ((srch_add_ok (Z := Z) (d := e9) (by omega) hq_13 h0  he_14).1 (by rw [hq_13]; exact hq0)).trans hq_13
        refine ex_pu (ls' := [vR q, vJ v1, vU, j3, j4, j5, vI v6, vI (v7 + 1)]) (st' := []) (dg dc60 83 rfl) rfl rfl ?_
        refine ex_goto (t := 105) (dg dc60 84 rfl) rfl rfl ?_
        exact ih (v7 + 1) M_15 _ _ _ hq_17 hf
def srch_addTakes_J99 (q : Nat)  (v1 s0 s1 : Int) (M : MM) : OR :=
  (srch_addTakes_L105 q v1 (iOr s1 s0) (fun M_18 => some (rV, M_18)) FU 0 M)
set_option maxRecDepth 4000 in
theorem srch_addTakes_J99_ok {Z : Nat × (Nat → Int)} {d : Nat} (hd : 2 ≤ d) {q : Nat} (h0 : q ≠ 0)  {res : AR × MM}  : ∀ (v1 s0 s1 : Int) (M : MM) (j3 j4 j5 j6 j7 : AV), M 0 17 = (q : Int) → srch_addTakes_J99 q  v1 s0 s1 M = some res → EX Z d 60 99 [vR q, vJ v1, vU, j3, j4, j5, j6, j7] [vI s0, vI s1] M res := by
  obtain ⟨e9, rfl⟩ : ∃ e9, d = e9 + 1 := ⟨d - 1, by omega⟩
  have hq0 : (q : Int) ≠ 0 := by omega
  intro v1 s0 s1 M j3 j4 j5 j6 j7 hq hf
  unfold srch_addTakes_J99 at hf
  refine ex_pu (ls' := [vR q, vJ v1, vU, j3, j4, j5, j6, j7]) (st' := [vI (iOr s1 s0)]) (dg dc60 56 rfl) rfl rfl ?_
  refine ex_istD (dg dc60 57 rfl) rfl rfl (fun w_9 => ?_)
  show EX Z _ 60 _ [vR q, vJ v1, vU, j3, j4, w_9, vI (iOr s1 s0), j7] [] _ _
  refine ex_pu (ls' := [vR q, vJ v1, vU, j3, j4, w_9, vI (iOr s1 s0), j7]) (st' := [vI 0]) (dg dc60 58 rfl) rfl rfl ?_
  refine ex_pu (ls' := [vR q, vJ v1, vU, j3, j4, w_9, vI (iOr s1 s0), vI 0]) (st' := []) (dg dc60 59 rfl) rfl rfl ?_
  refine srch_addTakes_L105_ok hd h0 ?_ FU 0 M _ _ _ hq hf
  · intro M_18 j0_20 j1_21 j2_22 j3_23 j4_24 j5_25 j6_26 j7_27 hq_19 hf
    exact ex_vre (dg dc60 85 rfl) rfl hf
def srch_addTakes_J67 (q : Nat)  (v1 v3 v4 s0 : Int) (M : MM) : OR :=
  (bif inB (M 1000 11) 10 then (bif cmpB .ne s0 (-1) then (srch_addTakes_J99 q  v1 (iAnd v4 (iShl 1 s0)) (iAnd (M 1004 ((M 1000 11)).toNat) (iXor v3 (-1))) M) else (srch_addTakes_J99 q  v1 0 (iAnd (M 1004 ((M 1000 11)).toNat) (iXor v3 (-1))) M)) else none)
set_option maxRecDepth 4000 in
theorem srch_addTakes_J67_ok {Z : Nat × (Nat → Int)} {d : Nat} (hd : 2 ≤ d) {q : Nat} (h0 : q ≠ 0)  {res : AR × MM}  : ∀ (v1 v3 v4 s0 : Int) (M : MM) (j5 j6 j7 : AV), M 0 17 = (q : Int) → srch_addTakes_J67 q  v1 v3 v4 s0 M = some res → EX Z d 60 67 [vR q, vJ v1, vU, vI v3, vI v4, j5, j6, j7] [vI s0] M res := by
  obtain ⟨e9, rfl⟩ : ∃ e9, d = e9 + 1 := ⟨d - 1, by omega⟩
  have hq0 : (q : Int) ≠ 0 := by omega
  intro v1 v3 v4 s0 M j5 j6 j7 hq hf
  unfold srch_addTakes_J67 at hf
  refine ex_pu (ls' := [vR q, vJ v1, vU, vI v3, vI v4, vI s0, j6, j7]) (st' := []) (dg dc60 36 rfl) rfl rfl ?_
  refine ex_pu (ls' := [vR q, vJ v1, vU, vI v3, vI v4, vI s0, j6, j7]) (st' := [vR q]) (dg dc60 37 rfl) rfl rfl ?_
  refine ex_getO (dg dc60 38 rfl) rfl (LOC.sr (j := 0) hq h0 (by decide) rfl) rfl ?_
  show EX Z _ 60 _ [vR q, vJ v1, vU, vI v3, vI v4, vI s0, j6, j7] [vR (q + 4)] _ _
  refine ex_pu (ls' := [vR q, vJ v1, vU, vI v3, vI v4, vI s0, j6, j7]) (st' := [vR q, vR (q + 4)]) (dg dc60 39 rfl) rfl rfl ?_
  refine ex_getI (dg dc60 40 rfl) rfl (LOC.sr (j := 0) hq h0 (by decide) rfl) rfl ?_
  refine ex_iald (dg dc60 41 rfl) (LOC.sr (j := 4) hq h0 (by decide) rfl) rfl hf (fun _ hf => ?_)
  refine ex_pu (ls' := [vR q, vJ v1, vU, vI v3, vI v4, vI s0, j6, j7]) (st' := [vI v3, vI (M 1004 ((M 1000 11)).toNat)]) (dg dc60 42 rfl) rfl rfl ?_
  refine ex_pu (ls' := [vR q, vJ v1, vU, vI v3, vI v4, vI s0, j6, j7]) (st' := [vI (-1), vI v3, vI (M 1004 ((M 1000 11)).toNat)]) (dg dc60 43 rfl) rfl rfl ?_
  refine ex_pu (ls' := [vR q, vJ v1, vU, vI v3, vI v4, vI s0, j6, j7]) (st' := [vI (iXor v3 (-1)), vI (M 1004 ((M 1000 11)).toNat)]) (dg dc60 44 rfl) rfl rfl ?_
  refine ex_pu (ls' := [vR q, vJ v1, vU, vI v3, vI v4, vI s0, j6, j7]) (st' := [vI (iAnd (M 1004 ((M 1000 11)).toNat) (iXor v3 (-1)))]) (dg dc60 45 rfl) rfl rfl ?_
  refine ex_pu (ls' := [vR q, vJ v1, vU, vI v3, vI v4, vI s0, j6, j7]) (st' := [vI s0, vI (iAnd (M 1004 ((M 1000 11)).toNat) (iXor v3 (-1)))]) (dg dc60 46 rfl) rfl rfl ?_
  refine ex_pu (ls' := [vR q, vJ v1, vU, vI v3, vI v4, vI s0, j6, j7]) (st' := [vI (-1), vI s0, vI (iAnd (M 1004 ((M 1000 11)).toNat) (iXor v3 (-1)))]) (dg dc60 47 rfl) rfl rfl ?_
  refine ex_icmp (t := 92) (dg dc60 48 rfl) rfl hf (fun _ hf => ?_) (fun _ hf => ?_)
  · refine ex_pu (ls' := [vR q, vJ v1, vU, vI v3, vI v4, vI s0, j6, j7]) (st' := [vI v4, vI (iAnd (M 1004 ((M 1000 11)).toNat) (iXor v3 (-1)))]) (dg dc60 51 rfl) rfl rfl ?_
    refine ex_pu (ls' := [vR q, vJ v1, vU, vI v3, vI v4, vI s0, j6, j7]) (st' := [vI 1, vI v4, vI (iAnd (M 1004 ((M 1000 11)).toNat) (iXor v3 (-1)))]) (dg dc60 52 rfl) rfl rfl ?_
    refine ex_pu (ls' := [vR q, vJ v1, vU, vI v3, vI v4, vI s0, j6, j7]) (st' := [vI s0, vI 1, vI v4, vI (iAnd (M 1004 ((M 1000 11)).toNat) (iXor v3 (-1)))]) (dg dc60 53 rfl) rfl rfl ?_
    refine ex_pu (ls' := [vR q, vJ v1, vU, vI v3, vI v4, vI s0, j6, j7]) (st' := [vI (iShl 1 s0), vI v4, vI (iAnd (M 1004 ((M 1000 11)).toNat) (iXor v3 (-1)))]) (dg dc60 54 rfl) rfl rfl ?_
    refine ex_pu (ls' := [vR q, vJ v1, vU, vI v3, vI v4, vI s0, j6, j7]) (st' := [vI (iAnd v4 (iShl 1 s0)), vI (iAnd (M 1004 ((M 1000 11)).toNat) (iXor v3 (-1)))]) (dg dc60 55 rfl) rfl rfl ?_
    exact srch_addTakes_J99_ok hd h0  v1 (iAnd v4 (iShl 1 s0)) (iAnd (M 1004 ((M 1000 11)).toNat) (iXor v3 (-1))) M _ _ _ _ _ hq hf
  · refine ex_pu (ls' := [vR q, vJ v1, vU, vI v3, vI v4, vI s0, j6, j7]) (st' := [vI 0, vI (iAnd (M 1004 ((M 1000 11)).toNat) (iXor v3 (-1)))]) (dg dc60 49 rfl) rfl rfl ?_
    refine ex_goto (t := 99) (dg dc60 50 rfl) rfl rfl ?_
    exact srch_addTakes_J99_ok hd h0  v1 0 (iAnd (M 1004 ((M 1000 11)).toNat) (iXor v3 (-1))) M _ _ _ _ _ hq hf
def srch_addTakes (q : Nat) (v1 : Int) (M : MM) : OR :=
  (bI (gh_hasRoom (M 1000 12) M) fun z_3 M_2 => (bif cmpB .ne z_3 0 then (bI (land_hasKeeper 3 (M_2 1000 11) M_2) fun z_7 M_6 => (bif cmpB .eq z_7 0 then (srch_addTakes_J67 q  v1 (iOr (M_2 1000 12) (iAnd (lUshr v1 10) 1023)) (iAnd (lUshr v1 20) 1023) (-1) M_6) else (bif inB (M_6 1000 11) 10 then (srch_addTakes_J67 q  v1 (iOr (M_2 1000 12) (iAnd (lUshr v1 10) 1023)) (iAnd (lUshr v1 20) 1023) (M_6 8 ((M_6 1000 11)).toNat) M_6) else none))) else some (rV, M_2)))
set_option maxRecDepth 4000 in
theorem srch_addTakes_ok {Z : Nat × (Nat → Int)} {d : Nat} (hd : 2 ≤ d) {M : MM} {q : Nat} (hq : M 0 17 = (q : Int)) (h0 : q ≠ 0) {v1 : Int} {res : AR × MM} (hf : srch_addTakes q v1 M = some res) : EX Z d 60 0 (ent 60 [vR q, vJ v1]) [] M res := by
  obtain ⟨e9, rfl⟩ : ∃ e9, d = e9 + 1 := ⟨d - 1, by omega⟩
  have hq0 : (q : Int) ≠ 0 := by omega
  unfold srch_addTakes at hf
  show EX Z _ 60 0 [vR q, vJ v1, vU, vU, vU, vU, vU, vU] [] M res
  refine ex_pu (ls' := [vR q, vJ v1, vU, vU, vU, vU, vU, vU]) (st' := [vR q]) (dg dc60 0 rfl) rfl rfl ?_
  refine ex_getI (dg dc60 1 rfl) rfl (LOC.sr (j := 0) hq h0 (by decide) rfl) rfl ?_
  refine ex_cI (vs := [vI (M 1000 12)]) (st' := []) (F := (gh_hasRoom (M 1000 12) M)) (Or.inl ⟨rfl, (dg dc60 2 rfl)⟩) rfl rfl (Or.inl rfl) rfl (fun _ r9 => gh_hasRoom_ok (Z := Z) (d := e9) (by omega)  r9) hf (fun z_3 M_2 he_1 hf => ?_)
  have hq_4 : M_2 0 17 = (q : Int) := ((gh_hasRoom_ok (Z := Z) (d := e9) (by omega)  he_1).1 (by rw [hq]; exact hq0)).trans hq
  refine ex_if (t := 11) (dg dc60 3 rfl) rfl hf (fun _ hf => ?_) (fun _ hf => ?_)
  · refine ex_pu (ls' := [vR q, vJ v1, vU, vU, vU, vU, vU, vU]) (st' := [vR q]) (dg dc60 5 rfl) rfl rfl ?_
    refine ex_getI (dg dc60 6 rfl) rfl (LOC.sr (j := 0) hq_4 h0 (by decide) rfl) rfl ?_
    refine ex_pu (ls' := [vR q, vJ v1, vU, vU, vU, vU, vU, vU]) (st' := [vJ v1, vI (M_2 1000 12)]) (dg dc60 7 rfl) rfl rfl ?_
    refine ex_pu (ls' := [vR q, vJ v1, vU, vU, vU, vU, vU, vU]) (st' := [vI 10, vJ v1, vI (M_2 1000 12)]) (dg dc60 8 rfl) rfl rfl ?_
    refine ex_pu (ls' := [vR q, vJ v1, vU, vU, vU, vU, vU, vU]) (st' := [vJ (lUshr v1 10), vI (M_2 1000 12)]) (dg dc60 9 rfl) rfl rfl ?_
    refine ex_pu (ls' := [vR q, vJ v1, vU, vU, vU, vU, vU, vU]) (st' := [vI (lUshr v1 10), vI (M_2 1000 12)]) (dg dc60 10 rfl) rfl rfl ?_
    refine ex_pu (ls' := [vR q, vJ v1, vU, vU, vU, vU, vU, vU]) (st' := [vI 1023, vI (lUshr v1 10), vI (M_2 1000 12)]) (dg dc60 11 rfl) rfl rfl ?_
    refine ex_pu (ls' := [vR q, vJ v1, vU, vU, vU, vU, vU, vU]) (st' := [vI (iAnd (lUshr v1 10) 1023), vI (M_2 1000 12)]) (dg dc60 12 rfl) rfl rfl ?_
    refine ex_pu (ls' := [vR q, vJ v1, vU, vU, vU, vU, vU, vU]) (st' := [vI (iOr (M_2 1000 12) (iAnd (lUshr v1 10) 1023))]) (dg dc60 13 rfl) rfl rfl ?_
    refine ex_pu (ls' := [vR q, vJ v1, vU, vI (iOr (M_2 1000 12) (iAnd (lUshr v1 10) 1023)), vU, vU, vU, vU]) (st' := []) (dg dc60 14 rfl) rfl rfl ?_
    refine ex_pu (ls' := [vR q, vJ v1, vU, vI (iOr (M_2 1000 12) (iAnd (lUshr v1 10) 1023)), vU, vU, vU, vU]) (st' := [vJ v1]) (dg dc60 15 rfl) rfl rfl ?_
    refine ex_pu (ls' := [vR q, vJ v1, vU, vI (iOr (M_2 1000 12) (iAnd (lUshr v1 10) 1023)), vU, vU, vU, vU]) (st' := [vI 20, vJ v1]) (dg dc60 16 rfl) rfl rfl ?_
    refine ex_pu (ls' := [vR q, vJ v1, vU, vI (iOr (M_2 1000 12) (iAnd (lUshr v1 10) 1023)), vU, vU, vU, vU]) (st' := [vJ (lUshr v1 20)]) (dg dc60 17 rfl) rfl rfl ?_
    refine ex_pu (ls' := [vR q, vJ v1, vU, vI (iOr (M_2 1000 12) (iAnd (lUshr v1 10) 1023)), vU, vU, vU, vU]) (st' := [vI (lUshr v1 20)]) (dg dc60 18 rfl) rfl rfl ?_
    refine ex_pu (ls' := [vR q, vJ v1, vU, vI (iOr (M_2 1000 12) (iAnd (lUshr v1 10) 1023)), vU, vU, vU, vU]) (st' := [vI 1023, vI (lUshr v1 20)]) (dg dc60 19 rfl) rfl rfl ?_
    refine ex_pu (ls' := [vR q, vJ v1, vU, vI (iOr (M_2 1000 12) (iAnd (lUshr v1 10) 1023)), vU, vU, vU, vU]) (st' := [vI (iAnd (lUshr v1 20) 1023)]) (dg dc60 20 rfl) rfl rfl ?_
    refine ex_pu (ls' := [vR q, vJ v1, vU, vI (iOr (M_2 1000 12) (iAnd (lUshr v1 10) 1023)), vI (iAnd (lUshr v1 20) 1023), vU, vU, vU]) (st' := []) (dg dc60 21 rfl) rfl rfl ?_
    refine ex_pu (ls' := [vR q, vJ v1, vU, vI (iOr (M_2 1000 12) (iAnd (lUshr v1 10) 1023)), vI (iAnd (lUshr v1 20) 1023), vU, vU, vU]) (st' := [vR q]) (dg dc60 22 rfl) rfl rfl ?_
    refine ex_getF (dg dc60 23 rfl) rfl (LOC.sr (j := 0) hq_4 h0 (by decide) rfl) rfl ?_
    refine ex_pu (ls' := [vR q, vJ v1, vU, vI (iOr (M_2 1000 12) (iAnd (lUshr v1 10) 1023)), vI (iAnd (lUshr v1 20) 1023), vU, vU, vU]) (st' := [vR q, vR 3]) (dg dc60 24 rfl) rfl rfl ?_
    refine ex_getI (dg dc60 25 rfl) rfl (LOC.sr (j := 0) hq_4 h0 (by decide) rfl) rfl ?_
    refine ex_cI (vs := [vR 3, vI (M_2 1000 11)]) (st' := []) (F := (land_hasKeeper 3 (M_2 1000 11) M_2)) (Or.inr (Or.inl ⟨rfl, (dg dc60 26 rfl)⟩)) rfl rfl (rk1 (LOC.st (Nat.le_of_ble_eq_true rfl) rfl) rfl) rfl (fun _ r9 => land_hasKeeper_ok (Z := Z) (d := e9) (by omega) isLand3  r9) hf (fun z_7 M_6 he_5 hf => ?_)
    have hq_8 : M_6 0 17 = (q : Int) := ((land_hasKeeper_ok (Z := Z) (d := e9) (by omega) isLand3  he_5).1 (by rw [hq_4]; exact hq0)).trans hq_4
    refine ex_if (t := 66) (dg dc60 27 rfl) rfl hf (fun _ hf => ?_) (fun _ hf => ?_)
    · refine ex_pu (ls' := [vR q, vJ v1, vU, vI (iOr (M_2 1000 12) (iAnd (lUshr v1 10) 1023)), vI (iAnd (lUshr v1 20) 1023), vU, vU, vU]) (st' := [vI (-1)]) (dg dc60 35 rfl) rfl rfl ?_
      exact srch_addTakes_J67_ok hd h0  v1 (iOr (M_2 1000 12) (iAnd (lUshr v1 10) 1023)) (iAnd (lUshr v1 20) 1023) (-1) M_6 _ _ _ hq_8 hf
    · refine ex_pu (ls' := [vR q, vJ v1, vU, vI (iOr (M_2 1000 12) (iAnd (lUshr v1 10) 1023)), vI (iAnd (lUshr v1 20) 1023), vU, vU, vU]) (st' := [vR q]) (dg dc60 28 rfl) rfl rfl ?_
      refine ex_getF (dg dc60 29 rfl) rfl (LOC.sr (j := 0) hq_8 h0 (by decide) rfl) rfl ?_
      refine ex_getO (dg dc60 30 rfl) rfl (LOC.st (Nat.le_of_ble_eq_true rfl) rfl) rfl ?_
      show EX Z _ 60 _ [vR q, vJ v1, vU, vI (iOr (M_2 1000 12) (iAnd (lUshr v1 10) 1023)), vI (iAnd (lUshr v1 20) 1023), vU, vU, vU] [vR 8] _ _
      refine ex_pu (ls' := [vR q, vJ v1, vU, vI (iOr (M_2 1000 12) (iAnd (lUshr v1 10) 1023)), vI (iAnd (lUshr v1 20) 1023), vU, vU, vU]) (st' := [vR q, vR 8]) (dg dc60 31 rfl) rfl rfl ?_
      refine ex_getI (dg dc60 32 rfl) rfl (LOC.sr (j := 0) hq_8 h0 (by decide) rfl) rfl ?_
      refine ex_iald (dg dc60 33 rfl) (LOC.st (Nat.le_of_ble_eq_true rfl) rfl) rfl hf (fun _ hf => ?_)
      refine ex_goto (t := 67) (dg dc60 34 rfl) rfl rfl ?_
      exact srch_addTakes_J67_ok hd h0  v1 (iOr (M_2 1000 12) (iAnd (lUshr v1 10) 1023)) (iAnd (lUshr v1 20) 1023) (M_6 8 ((M_6 1000 11)).toNat) M_6 _ _ _ hq_8 hf
  · exact ex_vre (dg dc60 4 rfl) rfl hf
-- GlassHill$TaleReader.readMeal
def il81 : List (Nat × Instr × Nat) := [(0, .aload_n 0, 1), (1, .getfield 15, 3), (4, .getfield 151, 3), (7, .iload_n 1, 1), (8, .iconst (-1), 1), (9, .iastore, 1), (10, .aload_n 0, 1), (11, .getfield 15, 3), (14, .getfield 154, 3), (17, .iload_n 1, 1), (18, .iconst (-1), 1), (19, .iastore, 1), (20, .aload_n 0, 1), (21, .getfield 9, 3), (24, .ldc 157, 2), (26, .invokevirtual 47, 3), (29, .ifCond .eq 52, 3), (32, .aload_n 0, 1), (33, .getfield 9, 3), (36, .iconst 0, 1), (37, .bipush 23, 2), (39, .invokevirtual 117, 3), (42, .istore_n 2, 1), (43, .aload_n 0, 1), (44, .getfield 9, 3), (47, .ldc 159, 2), (49, .invokevirtual 93, 3), (52, .aload_n 0, 1), (53, .getfield 15, 3), (56, .getfield 151, 3), (59, .iload_n 1, 1), (60, .iload_n 2, 1), (61, .iastore, 1), (62, .aload_n 0, 1), (63, .getfield 15, 3), (66, .getfield 154, 3), (69, .iload_n 1, 1), (70, .aload_n 0, 1), (71, .getfield 9, 3), (74, .iload_n 2, 1), (75, .bipush 23, 2), (77, .invokevirtual 117, 3), (80, .iastore, 1), (81, .return_, 1)]
theorem dc81 : dcs (mC 81) il81 := dc_of (by decide +kernel)
def tale_readMeal (v1 : Int) (M : MM) : OR :=
  (bif inB v1 10 then (sM (mU M 32 (v1).toNat (-1)) fun M_1 => (bif inB v1 10 then (sM (mU M_1 33 (v1).toNat (-1)) fun M_3 => (bI (tape_tookWord 9 M_3) fun z_7 M_6 => (bif cmpB .eq z_7 0 then some (rV, M_6) else (bI (tape_needNumber 0 23 M_6) fun z_10 M_9 => (bV (tape_needWord 10 M_9) fun M_12 => (bif inB v1 10 then (sM (mU M_12 32 (v1).toNat z_10) fun M_14 => (bI (tape_needNumber z_10 23 M_14) fun z_18 M_17 => (bif inB v1 10 then (sM (mU M_17 33 (v1).toNat z_18) fun M_19 => some (rV, M_19)) else none))) else none)))))) else none)) else none)
set_option maxRecDepth 4000 in
theorem tale_readMeal_ok {Z : Nat × (Nat → Int)} {d : Nat} (hd : 6 ≤ d) {M : MM}  {v1 : Int} {res : AR × MM} (hf : tale_readMeal v1 M = some res) : EX Z d 81 0 (ent 81 [vR 81, vI v1]) [] M res := by
  obtain ⟨e9, rfl⟩ : ∃ e9, d = e9 + 1 := ⟨d - 1, by omega⟩
  unfold tale_readMeal at hf
  show EX Z _ 81 0 [vR 81, vI v1, vU] [] M res
  refine ex_pu (ls' := [vR 81, vI v1, vU]) (st' := [vR 81]) (dg dc81 0 rfl) rfl rfl ?_
  refine ex_getF (dg dc81 1 rfl) rfl (LOC.st (Nat.le_of_ble_eq_true rfl) rfl) rfl ?_
  refine ex_getO (dg dc81 2 rfl) rfl (LOC.st (Nat.le_of_ble_eq_true rfl) rfl) rfl ?_
  show EX Z _ 81 _ [vR 81, vI v1, vU] [vR 32] _ _
  refine ex_pu (ls' := [vR 81, vI v1, vU]) (st' := [vI v1, vR 32]) (dg dc81 3 rfl) rfl rfl ?_
  refine ex_pu (ls' := [vR 81, vI v1, vU]) (st' := [vI (-1), vI v1, vR 32]) (dg dc81 4 rfl) rfl rfl ?_
  refine ex_iast (dg dc81 5 rfl) (LOC.st (Nat.le_of_ble_eq_true rfl) rfl) rfl rfl hf (fun _ hf => ?_)
  refine ex_gen hf (fun M_1 hM_2 hf => ?_)
  refine ex_pu (ls' := [vR 81, vI v1, vU]) (st' := [vR 81]) (dg dc81 6 rfl) rfl rfl ?_
  refine ex_getF (dg dc81 7 rfl) rfl (LOC.st (Nat.le_of_ble_eq_true rfl) rfl) rfl ?_
  refine ex_getO (dg dc81 8 rfl) rfl (LOC.st (Nat.le_of_ble_eq_true rfl) rfl) rfl ?_
  show EX Z _ 81 _ [vR 81, vI v1, vU] [vR 33] _ _
  refine ex_pu (ls' := [vR 81, vI v1, vU]) (st' := [vI v1, vR 33]) (dg dc81 9 rfl) rfl rfl ?_
  refine ex_pu (ls' := [vR 81, vI v1, vU]) (st' := [vI (-1), vI v1, vR 33]) (dg dc81 10 rfl) rfl rfl ?_
  refine ex_iast (dg dc81 11 rfl) (LOC.st (Nat.le_of_ble_eq_true rfl) rfl) rfl rfl hf (fun _ hf => ?_)
  refine ex_gen hf (fun M_3 hM_4 hf => ?_)
  refine ex_pu (ls' := [vR 81, vI v1, vU]) (st' := [vR 81]) (dg dc81 12 rfl) rfl rfl ?_
  refine ex_getF (dg dc81 13 rfl) rfl (LOC.st (Nat.le_of_ble_eq_true rfl) rfl) rfl ?_
  refine ex_ldcT (dg dc81 14 rfl) rfl ?_
  refine ex_cI (vs := [vR 1, vR (E0 + 2 + 2 * 9)]) (st' := []) (F := (tape_tookWord 9 M_3)) (Or.inr (Or.inl ⟨rfl, (dg dc81 15 rfl)⟩)) rfl rfl (rk1 (LOC.st (Nat.le_of_ble_eq_true rfl) rfl) rfl) rfl (fun _ r9 => tape_tookWord_ok (Z := Z) (d := e9) (by omega) (by decide)  r9) hf (fun z_7 M_6 he_5 hf => ?_)
  refine ex_if (t := 81) (dg dc81 16 rfl) rfl hf (fun _ hf => ?_) (fun _ hf => ?_)
  · exact ex_vre (dg dc81 43 rfl) rfl hf
  · refine ex_pu (ls' := [vR 81, vI v1, vU]) (st' := [vR 81]) (dg dc81 17 rfl) rfl rfl ?_
    refine ex_getF (dg dc81 18 rfl) rfl (LOC.st (Nat.le_of_ble_eq_true rfl) rfl) rfl ?_
    refine ex_pu (ls' := [vR 81, vI v1, vU]) (st' := [vI 0, vR 1]) (dg dc81 19 rfl) rfl rfl ?_
    refine ex_pu (ls' := [vR 81, vI v1, vU]) (st' := [vI 23, vI 0, vR 1]) (dg dc81 20 rfl) rfl rfl ?_
    refine ex_cI (vs := [vR 1, vI 0, vI 23]) (st' := []) (F := (tape_needNumber 0 23 M_6)) (Or.inr (Or.inl ⟨rfl, (dg dc81 21 rfl)⟩)) rfl rfl (rk1 (LOC.st (Nat.le_of_ble_eq_true rfl) rfl) rfl) rfl (fun _ r9 => tape_needNumber_ok (Z := Z) (d := e9) (by omega)  r9) hf (fun z_10 M_9 he_8 hf => ?_)
    refine ex_pu (ls' := [vR 81, vI v1, vI z_10]) (st' := []) (dg dc81 22 rfl) rfl rfl ?_
    refine ex_pu (ls' := [vR 81, vI v1, vI z_10]) (st' := [vR 81]) (dg dc81 23 rfl) rfl rfl ?_
    refine ex_getF (dg dc81 24 rfl) rfl (LOC.st (Nat.le_of_ble_eq_true rfl) rfl) rfl ?_
    refine ex_ldcT (dg dc81 25 rfl) rfl ?_
    refine ex_cV (vs := [vR 1, vR (E0 + 2 + 2 * 10)]) (st' := []) (F := (tape_needWord 10 M_9)) (Or.inr (Or.inl ⟨rfl, (dg dc81 26 rfl)⟩)) rfl rfl (rk1 (LOC.st (Nat.le_of_ble_eq_true rfl) rfl) rfl) rfl (fun _ r9 => tape_needWord_ok (Z := Z) (d := e9) (by omega) (by decide)  r9) hf (fun M_12 he_11 hf => ?_)
    refine ex_pu (ls' := [vR 81, vI v1, vI z_10]) (st' := [vR 81]) (dg dc81 27 rfl) rfl rfl ?_
    refine ex_getF (dg dc81 28 rfl) rfl (LOC.st (Nat.le_of_ble_eq_true rfl) rfl) rfl ?_
    refine ex_getO (dg dc81 29 rfl) rfl (LOC.st (Nat.le_of_ble_eq_true rfl) rfl) rfl ?_
    show EX Z _ 81 _ [vR 81, vI v1, vI z_10] [vR 32] _ _
    refine ex_pu (ls' := [vR 81, vI v1, vI z_10]) (st' := [vI v1, vR 32]) (dg dc81 30 rfl) rfl rfl ?_
    refine ex_pu (ls' := [vR 81, vI v1, vI z_10]) (st' := [vI z_10, vI v1, vR 32]) (dg dc81 31 rfl) rfl rfl ?_
    refine ex_iast (dg dc81 32 rfl) (LOC.st (Nat.le_of_ble_eq_true rfl) rfl) rfl rfl hf (fun _ hf => ?_)
    refine ex_gen hf (fun M_14 hM_15 hf => ?_)
    refine ex_pu (ls' := [vR 81, vI v1, vI z_10]) (st' := [vR 81]) (dg dc81 33 rfl) rfl rfl ?_
    refine ex_getF (dg dc81 34 rfl) rfl (LOC.st (Nat.le_of_ble_eq_true rfl) rfl) rfl ?_
    refine ex_getO (dg dc81 35 rfl) rfl (LOC.st (Nat.le_of_ble_eq_true rfl) rfl) rfl ?_
    show EX Z _ 81 _ [vR 81, vI v1, vI z_10] [vR 33] _ _
    refine ex_pu (ls' := [vR 81, vI v1, vI z_10]) (st' := [vI v1, vR 33]) (dg dc81 36 rfl) rfl rfl ?_
    refine ex_pu (ls' := [vR 81, vI v1, vI z_10]) (st' := [vR 81, vI v1, vR 33]) (dg dc81 37 rfl) rfl rfl ?_
    refine ex_getF (dg dc81 38 rfl) rfl (LOC.st (Nat.le_of_ble_eq_true rfl) rfl) rfl ?_
    refine ex_pu (ls' := [vR 81, vI v1, vI z_10]) (st' := [vI z_10, vR 1, vI v1, vR 33]) (dg dc81 39 rfl) rfl rfl ?_
    refine ex_pu (ls' := [vR 81, vI v1, vI z_10]) (st' := [vI 23, vI z_10, vR 1, vI v1, vR 33]) (dg dc81 40 rfl) rfl rfl ?_
    refine ex_cI (vs := [vR 1, vI z_10, vI 23]) (st' := [vI v1, vR 33]) (F := (tape_needNumber z_10 23 M_14)) (Or.inr (Or.inl ⟨rfl, (dg dc81 41 rfl)⟩)) rfl rfl (rk1 (LOC.st (Nat.le_of_ble_eq_true rfl) rfl) rfl) rfl (fun _ r9 => tape_needNumber_ok (Z := Z) (d := e9) (by omega)  r9) hf (fun z_18 M_17 he_16 hf => ?_)
    refine ex_iast (dg dc81 42 rfl) (LOC.st (Nat.le_of_ble_eq_true rfl) rfl) rfl rfl hf (fun _ hf => ?_)
    refine ex_gen hf (fun M_19 hM_20 hf => ?_)
    exact ex_vre (dg dc81 43 rfl) rfl hf
-- GlassHill$TaleReader.readNewThing
def il83 : List (Nat × Instr × Nat) := [(0, .aload_n 0, 1), (1, .getfield 15, 3), (4, .getfield 175, 3), (7, .bipush 10, 2), (9, .if_icmp .lt 19, 3), (12, .aload_n 0, 1), (13, .getfield 9, 3), (16, .aload_n 0, 1), (17, .getfield 9, 3), (20, .getfield 80, 3), (23, .invokevirtual 83, 3), (26, .iconst (-1), 1), (27, .ireturn, 1), (28, .aload_n 0, 1), (29, .getfield 15, 3), (32, .getfield 175, 3), (35, .istore_n 1, 1), (36, .aload_n 0, 1), (37, .getfield 15, 3), (40, .dup, 1), (41, .getfield 175, 3), (44, .iconst 1, 1), (45, .iadd, 1), (46, .putfield 175, 3), (49, .aload_n 0, 1), (50, .getfield 15, 3), (53, .getfield 178, 3), (56, .iload_n 1, 1), (57, .aload_n 0, 1), (58, .getfield 9, 3), (61, .iconst 0, 1), (62, .bipush 15, 2), (64, .invokevirtual 117, 3), (67, .iastore, 1), (68, .aload_n 0, 1), (69, .getfield 9, 3), (72, .ldc 181, 2), (74, .invokevirtual 93, 3), (77, .aload_n 0, 1), (78, .getfield 15, 3), (81, .getfield 183, 3), (84, .iload_n 1, 1), (85, .aload_n 0, 1), (86, .getfield 9, 3), (89, .iconst 1, 1), (90, .bipush 99, 2), (92, .invokevirtual 117, 3), (95, .iastore, 1), (96, .iload_n 1, 1), (97, .ireturn, 1)]
theorem dc83 : dcs (mC 83) il83 := dc_of (by decide +kernel)
def tale_readNewThing  (M : MM) : OR :=
  (bif cmpB .lt (M 29 1) 10 then (sM (mU M 29 1 ((M 29 1) + 1)) fun M_1 => (bI (tape_needNumber 0 15 M_1) fun z_5 M_4 => (bif inB (M 29 1) 10 then (sM (mU M_4 35 ((M 29 1)).toNat z_5) fun M_6 => (bV (tape_needWord 2 M_6) fun M_9 => (bI (tape_needNumber 1 99 M_9) fun z_13 M_12 => (bif inB (M 29 1) 10 then (sM (mU M_12 36 ((M 29 1)).toNat z_13) fun M_14 => some (rI (M 29 1), M_14)) else none)))) else none))) else (bV (tape_failAt (M 1 3) M) fun M_17 => some (rI (-1), M_17)))
set_option maxRecDepth 4000 in
theorem tale_readNewThing_ok {Z : Nat × (Nat → Int)} {d : Nat} (hd : 6 ≤ d) {M : MM}  {res : AR × MM} (hf : tale_readNewThing  M = some res) : EX Z d 83 0 (ent 83 [vR 81]) [] M res := by
  obtain ⟨e9, rfl⟩ : ∃ e9, d = e9 + 1 := ⟨d - 1, by omega⟩
  unfold tale_readNewThing at hf
  show EX Z _ 83 0 [vR 81, vU] [] M res
  refine ex_pu (ls' := [vR 81, vU]) (st' := [vR 81]) (dg dc83 0 rfl) rfl rfl ?_
  refine ex_getF (dg dc83 1 rfl) rfl (LOC.st (Nat.le_of_ble_eq_true rfl) rfl) rfl ?_
  refine ex_getI (dg dc83 2 rfl) rfl (LOC.st (Nat.le_of_ble_eq_true rfl) rfl) rfl ?_
  refine ex_pu (ls' := [vR 81, vU]) (st' := [vI 10, vI (M 29 1)]) (dg dc83 3 rfl) rfl rfl ?_
  refine ex_icmp (t := 28) (dg dc83 4 rfl) rfl hf (fun _ hf => ?_) (fun _ hf => ?_)
  · refine ex_pu (ls' := [vR 81, vU]) (st' := [vR 81]) (dg dc83 13 rfl) rfl rfl ?_
    refine ex_getF (dg dc83 14 rfl) rfl (LOC.st (Nat.le_of_ble_eq_true rfl) rfl) rfl ?_
    refine ex_getI (dg dc83 15 rfl) rfl (LOC.st (Nat.le_of_ble_eq_true rfl) rfl) rfl ?_
    refine ex_pu (ls' := [vR 81, vI (M 29 1)]) (st' := []) (dg dc83 16 rfl) rfl rfl ?_
    refine ex_pu (ls' := [vR 81, vI (M 29 1)]) (st' := [vR 81]) (dg dc83 17 rfl) rfl rfl ?_
    refine ex_getF (dg dc83 18 rfl) rfl (LOC.st (Nat.le_of_ble_eq_true rfl) rfl) rfl ?_
    refine ex_pu (ls' := [vR 81, vI (M 29 1)]) (st' := [vR 29, vR 29]) (dg dc83 19 rfl) rfl rfl ?_
    refine ex_getI (dg dc83 20 rfl) rfl (LOC.st (Nat.le_of_ble_eq_true rfl) rfl) rfl ?_
    refine ex_pu (ls' := [vR 81, vI (M 29 1)]) (st' := [vI 1, vI (M 29 1), vR 29]) (dg dc83 21 rfl) rfl rfl ?_
    refine ex_pu (ls' := [vR 81, vI (M 29 1)]) (st' := [vI ((M 29 1) + 1), vR 29]) (dg dc83 22 rfl) rfl rfl ?_
    refine ex_putI (dg dc83 23 rfl) rfl (LOC.st (Nat.le_of_ble_eq_true rfl) rfl) rfl rfl rfl ?_
    refine ex_gen hf (fun M_1 hM_2 hf => ?_)
    refine ex_pu (ls' := [vR 81, vI (M 29 1)]) (st' := [vR 81]) (dg dc83 24 rfl) rfl rfl ?_
    refine ex_getF (dg dc83 25 rfl) rfl (LOC.st (Nat.le_of_ble_eq_true rfl) rfl) rfl ?_
    refine ex_getO (dg dc83 26 rfl) rfl (LOC.st (Nat.le_of_ble_eq_true rfl) rfl) rfl ?_
    show EX Z _ 83 _ [vR 81, vI (M 29 1)] [vR 35] _ _
    refine ex_pu (ls' := [vR 81, vI (M 29 1)]) (st' := [vI (M 29 1), vR 35]) (dg dc83 27 rfl) rfl rfl ?_
    refine ex_pu (ls' := [vR 81, vI (M 29 1)]) (st' := [vR 81, vI (M 29 1), vR 35]) (dg dc83 28 rfl) rfl rfl ?_
    refine ex_getF (dg dc83 29 rfl) rfl (LOC.st (Nat.le_of_ble_eq_true rfl) rfl) rfl ?_
    refine ex_pu (ls' := [vR 81, vI (M 29 1)]) (st' := [vI 0, vR 1, vI (M 29 1), vR 35]) (dg dc83 30 rfl) rfl rfl ?_
    refine ex_pu (ls' := [vR 81, vI (M 29 1)]) (st' := [vI 15, vI 0, vR 1, vI (M 29 1), vR 35]) (dg dc83 31 rfl) rfl rfl ?_
    refine ex_cI (vs := [vR 1, vI 0, vI 15]) (st' := [vI (M 29 1), vR 35]) (F := (tape_needNumber 0 15 M_1)) (Or.inr (Or.inl ⟨rfl, (dg dc83 32 rfl)⟩)) rfl rfl (rk1 (LOC.st (Nat.le_of_ble_eq_true rfl) rfl) rfl) rfl (fun _ r9 => tape_needNumber_ok (Z := Z) (d := e9) (by omega)  r9) hf (fun z_5 M_4 he_3 hf => ?_)
    refine ex_iast (dg dc83 33 rfl) (LOC.st (Nat.le_of_ble_eq_true rfl) rfl) rfl rfl hf (fun _ hf => ?_)
    refine ex_gen hf (fun M_6 hM_7 hf => ?_)
    refine ex_pu (ls' := [vR 81, vI (M 29 1)]) (st' := [vR 81]) (dg dc83 34 rfl) rfl rfl ?_
    refine ex_getF (dg dc83 35 rfl) rfl (LOC.st (Nat.le_of_ble_eq_true rfl) rfl) rfl ?_
    refine ex_ldcT (dg dc83 36 rfl) rfl ?_
    refine ex_cV (vs := [vR 1, vR (E0 + 2 + 2 * 2)]) (st' := []) (F := (tape_needWord 2 M_6)) (Or.inr (Or.inl ⟨rfl, (dg dc83 37 rfl)⟩)) rfl rfl (rk1 (LOC.st (Nat.le_of_ble_eq_true rfl) rfl) rfl) rfl (fun _ r9 => tape_needWord_ok (Z := Z) (d := e9) (by omega) (by decide)  r9) hf (fun M_9 he_8 hf => ?_)
    refine ex_pu (ls' := [vR 81, vI (M 29 1)]) (st' := [vR 81]) (dg dc83 38 rfl) rfl rfl ?_
    refine ex_getF (dg dc83 39 rfl) rfl (LOC.st (Nat.le_of_ble_eq_true rfl) rfl) rfl ?_
    refine ex_getO (dg dc83 40 rfl) rfl (LOC.st (Nat.le_of_ble_eq_true rfl) rfl) rfl ?_
    show EX Z _ 83 _ [vR 81, vI (M 29 1)] [vR 36] _ _
    refine ex_pu (ls' := [vR 81, vI (M 29 1)]) (st' := [vI (M 29 1), vR 36]) (dg dc83 41 rfl) rfl rfl ?_
    refine ex_pu (ls' := [vR 81, vI (M 29 1)]) (st' := [vR 81, vI (M 29 1), vR 36]) (dg dc83 42 rfl) rfl rfl ?_
    refine ex_getF (dg dc83 43 rfl) rfl (LOC.st (Nat.le_of_ble_eq_true rfl) rfl) rfl ?_
    refine ex_pu (ls' := [vR 81, vI (M 29 1)]) (st' := [vI 1, vR 1, vI (M 29 1), vR 36]) (dg dc83 44 rfl) rfl rfl ?_
    refine ex_pu (ls' := [vR 81, vI (M 29 1)]) (st' := [vI 99, vI 1, vR 1, vI (M 29 1), vR 36]) (dg dc83 45 rfl) rfl rfl ?_
    refine ex_cI (vs := [vR 1, vI 1, vI 99]) (st' := [vI (M 29 1), vR 36]) (F := (tape_needNumber 1 99 M_9)) (Or.inr (Or.inl ⟨rfl, (dg dc83 46 rfl)⟩)) rfl rfl (rk1 (LOC.st (Nat.le_of_ble_eq_true rfl) rfl) rfl) rfl (fun _ r9 => tape_needNumber_ok (Z := Z) (d := e9) (by omega)  r9) hf (fun z_13 M_12 he_11 hf => ?_)
    refine ex_iast (dg dc83 47 rfl) (LOC.st (Nat.le_of_ble_eq_true rfl) rfl) rfl rfl hf (fun _ hf => ?_)
    refine ex_gen hf (fun M_14 hM_15 hf => ?_)
    refine ex_pu (ls' := [vR 81, vI (M 29 1)]) (st' := [vI (M 29 1)]) (dg dc83 48 rfl) rfl rfl ?_
    exact ex_ire (dg dc83 49 rfl) rfl hf
  · refine ex_pu (ls' := [vR 81, vU]) (st' := [vR 81]) (dg dc83 5 rfl) rfl rfl ?_
    refine ex_getF (dg dc83 6 rfl) rfl (LOC.st (Nat.le_of_ble_eq_true rfl) rfl) rfl ?_
    refine ex_pu (ls' := [vR 81, vU]) (st' := [vR 81, vR 1]) (dg dc83 7 rfl) rfl rfl ?_
    refine ex_getF (dg dc83 8 rfl) rfl (LOC.st (Nat.le_of_ble_eq_true rfl) rfl) rfl ?_
    refine ex_getI (dg dc83 9 rfl) rfl (LOC.st (Nat.le_of_ble_eq_true rfl) rfl) rfl ?_
    refine ex_cV (vs := [vR 1, vI (M 1 3)]) (st' := []) (F := (tape_failAt (M 1 3) M)) (Or.inr (Or.inl ⟨rfl, (dg dc83 10 rfl)⟩)) rfl rfl (rk1 (LOC.st (Nat.le_of_ble_eq_true rfl) rfl) rfl) rfl (fun _ r9 => tape_failAt_ok (Z := Z) (d := e9) (by omega)  r9) hf (fun M_17 he_16 hf => ?_)
    refine ex_pu (ls' := [vR 81, vU]) (st' := [vI (-1)]) (dg dc83 11 rfl) rfl rfl ?_
    exact ex_ire (dg dc83 12 rfl) rfl hf
-- GlassHill$TaleReader.readLock
def il84 : List (Nat × Instr × Nat) := [(0, .aload_n 0, 1), (1, .getfield 9, 3), (4, .ldc 185, 2), (6, .invokevirtual 93, 3), (9, .aload_n 0, 1), (10, .getfield 15, 3), (13, .getfield 187, 3), (16, .iload_n 1, 1), (17, .aload_n 0, 1), (18, .getfield 9, 3), (21, .iconst 0, 1), (22, .bipush 15, 2), (24, .invokevirtual 117, 3), (27, .iastore, 1), (28, .aload_n 0, 1), (29, .getfield 15, 3), (32, .getfield 190, 3), (35, .iload_n 1, 1), (36, .aload_n 0, 1), (37, .getfield 9, 3), (40, .iconst 0, 1), (41, .bipush 15, 2), (43, .invokevirtual 117, 3), (46, .iastore, 1), (47, .return_, 1)]
theorem dc84 : dcs (mC 84) il84 := dc_of (by decide +kernel)
def tale_readLock (v1 : Int) (M : MM) : OR :=
  (bV (tape_needWord 8 M) fun M_2 => (bI (tape_needNumber 0 15 M_2) fun z_6 M_5 => (bif inB v1 17 then (sM (mU M_5 30 (v1).toNat z_6) fun M_7 => (bI (tape_needNumber 0 15 M_7) fun z_11 M_10 => (bif inB v1 17 then (sM (mU M_10 31 (v1).toNat z_11) fun M_12 => some (rV, M_12)) else none))) else none)))
set_option maxRecDepth 4000 in
theorem tale_readLock_ok {Z : Nat × (Nat → Int)} {d : Nat} (hd : 6 ≤ d) {M : MM}  {v1 : Int} {res : AR × MM} (hf : tale_readLock v1 M = some res) : EX Z d 84 0 (ent 84 [vR 81, vI v1]) [] M res := by
  obtain ⟨e9, rfl⟩ : ∃ e9, d = e9 + 1 := ⟨d - 1, by omega⟩
  unfold tale_readLock at hf
  show EX Z _ 84 0 [vR 81, vI v1] [] M res
  refine ex_pu (ls' := [vR 81, vI v1]) (st' := [vR 81]) (dg dc84 0 rfl) rfl rfl ?_
  refine ex_getF (dg dc84 1 rfl) rfl (LOC.st (Nat.le_of_ble_eq_true rfl) rfl) rfl ?_
  refine ex_ldcT (dg dc84 2 rfl) rfl ?_
  refine ex_cV (vs := [vR 1, vR (E0 + 2 + 2 * 8)]) (st' := []) (F := (tape_needWord 8 M)) (Or.inr (Or.inl ⟨rfl, (dg dc84 3 rfl)⟩)) rfl rfl (rk1 (LOC.st (Nat.le_of_ble_eq_true rfl) rfl) rfl) rfl (fun _ r9 => tape_needWord_ok (Z := Z) (d := e9) (by omega) (by decide)  r9) hf (fun M_2 he_1 hf => ?_)
  refine ex_pu (ls' := [vR 81, vI v1]) (st' := [vR 81]) (dg dc84 4 rfl) rfl rfl ?_
  refine ex_getF (dg dc84 5 rfl) rfl (LOC.st (Nat.le_of_ble_eq_true rfl) rfl) rfl ?_
  refine ex_getO (dg dc84 6 rfl) rfl (LOC.st (Nat.le_of_ble_eq_true rfl) rfl) rfl ?_
  show EX Z _ 84 _ [vR 81, vI v1] [vR 30] _ _
  refine ex_pu (ls' := [vR 81, vI v1]) (st' := [vI v1, vR 30]) (dg dc84 7 rfl) rfl rfl ?_
  refine ex_pu (ls' := [vR 81, vI v1]) (st' := [vR 81, vI v1, vR 30]) (dg dc84 8 rfl) rfl rfl ?_
  refine ex_getF (dg dc84 9 rfl) rfl (LOC.st (Nat.le_of_ble_eq_true rfl) rfl) rfl ?_
  refine ex_pu (ls' := [vR 81, vI v1]) (st' := [vI 0, vR 1, vI v1, vR 30]) (dg dc84 10 rfl) rfl rfl ?_
  refine ex_pu (ls' := [vR 81, vI v1]) (st' := [vI 15, vI 0, vR 1, vI v1, vR 30]) (dg dc84 11 rfl) rfl rfl ?_
  refine ex_cI (vs := [vR 1, vI 0, vI 15]) (st' := [vI v1, vR 30]) (F := (tape_needNumber 0 15 M_2)) (Or.inr (Or.inl ⟨rfl, (dg dc84 12 rfl)⟩)) rfl rfl (rk1 (LOC.st (Nat.le_of_ble_eq_true rfl) rfl) rfl) rfl (fun _ r9 => tape_needNumber_ok (Z := Z) (d := e9) (by omega)  r9) hf (fun z_6 M_5 he_4 hf => ?_)
  refine ex_iast (dg dc84 13 rfl) (LOC.st (Nat.le_of_ble_eq_true rfl) rfl) rfl rfl hf (fun _ hf => ?_)
  refine ex_gen hf (fun M_7 hM_8 hf => ?_)
  refine ex_pu (ls' := [vR 81, vI v1]) (st' := [vR 81]) (dg dc84 14 rfl) rfl rfl ?_
  refine ex_getF (dg dc84 15 rfl) rfl (LOC.st (Nat.le_of_ble_eq_true rfl) rfl) rfl ?_
  refine ex_getO (dg dc84 16 rfl) rfl (LOC.st (Nat.le_of_ble_eq_true rfl) rfl) rfl ?_
  show EX Z _ 84 _ [vR 81, vI v1] [vR 31] _ _
  refine ex_pu (ls' := [vR 81, vI v1]) (st' := [vI v1, vR 31]) (dg dc84 17 rfl) rfl rfl ?_
  refine ex_pu (ls' := [vR 81, vI v1]) (st' := [vR 81, vI v1, vR 31]) (dg dc84 18 rfl) rfl rfl ?_
  refine ex_getF (dg dc84 19 rfl) rfl (LOC.st (Nat.le_of_ble_eq_true rfl) rfl) rfl ?_
  refine ex_pu (ls' := [vR 81, vI v1]) (st' := [vI 0, vR 1, vI v1, vR 31]) (dg dc84 20 rfl) rfl rfl ?_
  refine ex_pu (ls' := [vR 81, vI v1]) (st' := [vI 15, vI 0, vR 1, vI v1, vR 31]) (dg dc84 21 rfl) rfl rfl ?_
  refine ex_cI (vs := [vR 1, vI 0, vI 15]) (st' := [vI v1, vR 31]) (F := (tape_needNumber 0 15 M_7)) (Or.inr (Or.inl ⟨rfl, (dg dc84 22 rfl)⟩)) rfl rfl (rk1 (LOC.st (Nat.le_of_ble_eq_true rfl) rfl) rfl) rfl (fun _ r9 => tape_needNumber_ok (Z := Z) (d := e9) (by omega)  r9) hf (fun z_11 M_10 he_9 hf => ?_)
  refine ex_iast (dg dc84 23 rfl) (LOC.st (Nat.le_of_ble_eq_true rfl) rfl) rfl rfl hf (fun _ hf => ?_)
  refine ex_gen hf (fun M_12 hM_13 hf => ?_)
  exact ex_vre (dg dc84 24 rfl) rfl hf
-- GlassHill$TaleReader.readPlaceNumber
def il85 : List (Nat × Instr × Nat) := [(0, .aload_n 0, 1), (1, .getfield 9, 3), (4, .iconst 0, 1), (5, .aload_n 0, 1), (6, .getfield 15, 3), (9, .getfield 74, 3), (12, .iconst 1, 1), (13, .isub, 1), (14, .invokevirtual 117, 3), (17, .ireturn, 1)]
theorem dc85 : dcs (mC 85) il85 := dc_of (by decide +kernel)
def tale_readPlaceNumber  (M : MM) : OR :=
  (bI (tape_needNumber 0 ((M 29 0) - 1) M) fun z_3 M_2 => some (rI z_3, M_2))
set_option maxRecDepth 4000 in
theorem tale_readPlaceNumber_ok {Z : Nat × (Nat → Int)} {d : Nat} (hd : 2 ≤ d) {M : MM}  {res : AR × MM} (hf : tale_readPlaceNumber  M = some res) : EX Z d 85 0 (ent 85 [vR 81]) [] M res := by
  obtain ⟨e9, rfl⟩ : ∃ e9, d = e9 + 1 := ⟨d - 1, by omega⟩
  unfold tale_readPlaceNumber at hf
  show EX Z _ 85 0 [vR 81] [] M res
  refine ex_pu (ls' := [vR 81]) (st' := [vR 81]) (dg dc85 0 rfl) rfl rfl ?_
  refine ex_getF (dg dc85 1 rfl) rfl (LOC.st (Nat.le_of_ble_eq_true rfl) rfl) rfl ?_
  refine ex_pu (ls' := [vR 81]) (st' := [vI 0, vR 1]) (dg dc85 2 rfl) rfl rfl ?_
  refine ex_pu (ls' := [vR 81]) (st' := [vR 81, vI 0, vR 1]) (dg dc85 3 rfl) rfl rfl ?_
  refine ex_getF (dg dc85 4 rfl) rfl (LOC.st (Nat.le_of_ble_eq_true rfl) rfl) rfl ?_
  refine ex_getI (dg dc85 5 rfl) rfl (LOC.st (Nat.le_of_ble_eq_true rfl) rfl) rfl ?_
  refine ex_pu (ls' := [vR 81]) (st' := [vI 1, vI (M 29 0), vI 0, vR 1]) (dg dc85 6 rfl) rfl rfl ?_
  refine ex_pu (ls' := [vR 81]) (st' := [vI ((M 29 0) - 1), vI 0, vR 1]) (dg dc85 7 rfl) rfl rfl ?_
  refine ex_cI (vs := [vR 1, vI 0, vI ((M 29 0) - 1)]) (st' := []) (F := (tape_needNumber 0 ((M 29 0) - 1) M)) (Or.inr (Or.inl ⟨rfl, (dg dc85 8 rfl)⟩)) rfl rfl (rk1 (LOC.st (Nat.le_of_ble_eq_true rfl) rfl) rfl) rfl (fun _ r9 => tape_needNumber_ok (Z := Z) (d := e9) (by omega)  r9) hf (fun z_3 M_2 he_1 hf => ?_)
  exact ex_ire (dg dc85 9 rfl) rfl hf
-- GlassHill$Tape.endText
def il89 : List (Nat × Instr × Nat) := [(0, .aload_n 0, 1), (1, .invokevirtual 28, 3), (4, .ifCond .ne 7, 3), (7, .aload_n 0, 1), (8, .invokevirtual 32, 3), (11, .aload_n 0, 1), (12, .iconst 0, 1), (13, .putfield 15, 3), (16, .aload_n 0, 1), (17, .getfield 19, 3), (20, .iconst (-1), 1), (21, .if_icmp .ne 7, 3), (24, .iconst 1, 1), (25, .goto 4, 3), (28, .iconst 0, 1), (29, .ireturn, 1)]
theorem dc89 : dcs (mC 89) il89 := dc_of (by decide +kernel)
def tape_endText  (M : MM) : OR :=
  (bI (tape_isAtEnd  M) fun z_3 M_2 => (bif cmpB .ne z_3 0 then (sM (mU M_2 1 1 0) fun M_4 => (bif cmpB .ne (M_4 1 2) (-1) then some (rI 0, M_4) else some (rI 1, M_4))) else (bV (tape_fail  M_2) fun M_7 => (sM (mU M_7 1 1 0) fun M_9 => (bif cmpB .ne (M_9 1 2) (-1) then some (rI 0, M_9) else some (rI 1, M_9))))))
set_option maxRecDepth 4000 in
theorem tape_endText_ok {Z : Nat × (Nat → Int)} {d : Nat} (hd : 2 ≤ d) {M : MM}  {res : AR × MM} (hf : tape_endText  M = some res) : EX Z d 89 0 (ent 89 [vR 1]) [] M res := by
  obtain ⟨e9, rfl⟩ : ∃ e9, d = e9 + 1 := ⟨d - 1, by omega⟩
  unfold tape_endText at hf
  show EX Z _ 89 0 [vR 1] [] M res
  refine ex_pu (ls' := [vR 1]) (st' := [vR 1]) (dg dc89 0 rfl) rfl rfl ?_
  refine ex_cI (vs := [vR 1]) (st' := []) (F := (tape_isAtEnd  M)) (Or.inr (Or.inl ⟨rfl, (dg dc89 1 rfl)⟩)) rfl rfl (rk1 (LOC.st (Nat.le_of_ble_eq_true rfl) rfl) rfl) rfl (fun _ r9 => tape_isAtEnd_ok (Z := Z) (d := e9) (by omega)  r9) hf (fun z_3 M_2 he_1 hf => ?_)
  refine ex_if (t := 11) (dg dc89 2 rfl) rfl hf (fun _ hf => ?_) (fun _ hf => ?_)
  · refine ex_pu (ls' := [vR 1]) (st' := [vR 1]) (dg dc89 5 rfl) rfl rfl ?_
    refine ex_pu (ls' := [vR 1]) (st' := [vI 0, vR 1]) (dg dc89 6 rfl) rfl rfl ?_
    refine ex_putI (dg dc89 7 rfl) rfl (LOC.st (Nat.le_of_ble_eq_true rfl) rfl) rfl rfl rfl ?_
    refine ex_gen hf (fun M_4 hM_5 hf => ?_)
    refine ex_pu (ls' := [vR 1]) (st' := [vR 1]) (dg dc89 8 rfl) rfl rfl ?_
    refine ex_getI (dg dc89 9 rfl) rfl (LOC.st (Nat.le_of_ble_eq_true rfl) rfl) rfl ?_
    refine ex_pu (ls' := [vR 1]) (st' := [vI (-1), vI (M_4 1 2)]) (dg dc89 10 rfl) rfl rfl ?_
    refine ex_icmp (t := 28) (dg dc89 11 rfl) rfl hf (fun _ hf => ?_) (fun _ hf => ?_)
    · refine ex_pu (ls' := [vR 1]) (st' := [vI 0]) (dg dc89 14 rfl) rfl rfl ?_
      exact ex_ire (dg dc89 15 rfl) rfl hf
    · refine ex_pu (ls' := [vR 1]) (st' := [vI 1]) (dg dc89 12 rfl) rfl rfl ?_
      refine ex_goto (t := 29) (dg dc89 13 rfl) rfl rfl ?_
      exact ex_ire (dg dc89 15 rfl) rfl hf
  · refine ex_pu (ls' := [vR 1]) (st' := [vR 1]) (dg dc89 3 rfl) rfl rfl ?_
    refine ex_cV (vs := [vR 1]) (st' := []) (F := (tape_fail  M_2)) (Or.inr (Or.inl ⟨rfl, (dg dc89 4 rfl)⟩)) rfl rfl (rk1 (LOC.st (Nat.le_of_ble_eq_true rfl) rfl) rfl) rfl (fun _ r9 => tape_fail_ok (Z := Z) (d := e9) (by omega)  r9) hf (fun M_7 he_6 hf => ?_)
    refine ex_pu (ls' := [vR 1]) (st' := [vR 1]) (dg dc89 5 rfl) rfl rfl ?_
    refine ex_pu (ls' := [vR 1]) (st' := [vI 0, vR 1]) (dg dc89 6 rfl) rfl rfl ?_
    refine ex_putI (dg dc89 7 rfl) rfl (LOC.st (Nat.le_of_ble_eq_true rfl) rfl) rfl rfl rfl ?_
    refine ex_gen hf (fun M_9 hM_10 hf => ?_)
    refine ex_pu (ls' := [vR 1]) (st' := [vR 1]) (dg dc89 8 rfl) rfl rfl ?_
    refine ex_getI (dg dc89 9 rfl) rfl (LOC.st (Nat.le_of_ble_eq_true rfl) rfl) rfl ?_
    refine ex_pu (ls' := [vR 1]) (st' := [vI (-1), vI (M_9 1 2)]) (dg dc89 10 rfl) rfl rfl ?_
    refine ex_icmp (t := 28) (dg dc89 11 rfl) rfl hf (fun _ hf => ?_) (fun _ hf => ?_)
    · refine ex_pu (ls' := [vR 1]) (st' := [vI 0]) (dg dc89 14 rfl) rfl rfl ?_
      exact ex_ire (dg dc89 15 rfl) rfl hf
    · refine ex_pu (ls' := [vR 1]) (st' := [vI 1]) (dg dc89 12 rfl) rfl rfl ?_
      refine ex_goto (t := 29) (dg dc89 13 rfl) rfl rfl ?_
      exact ex_ire (dg dc89 15 rfl) rfl hf
-- GlassHill.place
def il115 : List (Nat × Instr × Nat) := [(0, .aload_n 0, 1), (1, .iload_n 1, 1), (2, .invokevirtual 164, 3), (5, .aload_n 0, 1), (6, .getfield 19, 3), (9, .iload_n 1, 1), (10, .invokevirtual 167, 3), (13, .istore_n 3, 1), (14, .iload_n 2, 1), (15, .tableswitch 170 0 8 #[49, 59, 77, 95, 113, 131, 143, 149, 161], 49), (64, .iload_n 3, 1), (65, .ifCond .eq 7, 3), (68, .iconst 1, 1), (69, .goto 4, 3), (72, .iconst 0, 1), (73, .ireturn, 1), (74, .iload_n 3, 1), (75, .ifCond .eq 15, 3), (78, .aload_n 0, 1), (79, .getfield 19, 3), (82, .getfield 171, 3), (85, .iload_n 1, 1), (86, .iaload, 1), (87, .goto 4, 3), (90, .iconst 0, 1), (91, .ireturn, 1), (92, .iload_n 3, 1), (93, .ifCond .eq 15, 3), (96, .aload_n 0, 1), (97, .getfield 19, 3), (100, .getfield 175, 3), (103, .iload_n 1, 1), (104, .iaload, 1), (105, .goto 4, 3), (108, .iconst 0, 1), (109, .ireturn, 1), (110, .iload_n 3, 1), (111, .ifCond .eq 15, 3), (114, .aload_n 0, 1), (115, .getfield 19, 3), (118, .getfield 178, 3), (121, .iload_n 1, 1), (122, .iaload, 1), (123, .goto 4, 3), (126, .iconst (-1), 1), (127, .ireturn, 1), (128, .iload_n 3, 1), (129, .ifCond .eq 15, 3), (132, .aload_n 0, 1), (133, .getfield 19, 3), (136, .getfield 181, 3), (139, .iload_n 1, 1), (140, .iaload, 1), (141, .goto 4, 3), (144, .iconst (-1), 1), (145, .ireturn, 1), (146, .aload_n 0, 1), (147, .getfield 19, 3), (150, .getfield 184, 3), (153, .iload_n 1, 1), (154, .invokestatic 187, 3), (157, .ireturn, 1), (158, .aload_n 0, 1), (159, .iload_n 1, 1), (160, .invokevirtual 191, 3), (163, .ireturn, 1), (164, .aload_n 0, 1), (165, .getfield 33, 3), (168, .getfield 195, 3), (171, .iload_n 1, 1), (172, .invokestatic 187, 3), (175, .ireturn, 1), (176, .aload_n 0, 1), (177, .getfield 33, 3), (180, .iload_n 1, 1), (181, .invokevirtual 198, 3), (184, .ireturn, 1), (185, .new 201, 3), (188, .dup, 1), (189, .ldc 203, 2), (191, .invokespecial 205, 3), (194, .athrow, 1)]
theorem dc115 : dcs (mC 115) il115 := dc_of (by decide +kernel)
def gh_place (v1 : Int) (v2 : Int) (M : MM) : OR :=
  (bV (gh_checkPlace v1 M) fun M_2 => (bI (land_hasKeeper 3 v1 M_2) fun z_6 M_5 => (bif cmpB .eq v2 0 then (bif cmpB .eq z_6 0 then some (rI 0, M_5) else some (rI 1, M_5)) else (bif cmpB .eq v2 1 then (bif cmpB .eq z_6 0 then some (rI 0, M_5) else (bif inB v1 17 then some (rI (M_5 4 (v1).toNat), M_5) else none)) else (bif cmpB .eq v2 2 then (bif cmpB .eq z_6 0 then some (rI 0, M_5) else (bif inB v1 17 then some (rI (M_5 5 (v1).toNat), M_5) else none)) else (bif cmpB .eq v2 3 then (bif cmpB .eq z_6 0 then some (rI (-1), M_5) else (bif inB v1 10 then some (rI (M_5 6 (v1).toNat), M_5) else none)) else (bif cmpB .eq v2 4 then (bif cmpB .eq z_6 0 then some (rI (-1), M_5) else (bif inB v1 10 then some (rI (M_5 7 (v1).toNat), M_5) else none)) else (bif cmpB .eq v2 5 then (bI (gh_bit (M_5 3 6) v1 M_5) fun z_15 M_14 => some (rI z_15, M_14)) else (bif cmpB .eq v2 6 then (bI (gh_giftStillHad v1 M_5) fun z_19 M_18 => some (rI z_19, M_18)) else (bif cmpB .eq v2 7 then (bI (gh_bit (M_5 23 6) v1 M_5) fun z_23 M_22 => some (rI z_23, M_22)) else (bif cmpB .eq v2 8 then (bI (jny_lying 23 v1 M_5) fun z_27 M_26 => some (rI z_27, M_26)) else thx 16 M_5)))))))))))
set_option maxRecDepth 4000 in
theorem gh_place_ok {Z : Nat × (Nat → Int)} {d : Nat} (hd : 3 ≤ d) {M : MM}  {v1 v2 : Int} {res : AR × MM} (hf : gh_place v1 v2 M = some res) : EX Z d 115 0 (ent 115 [vR 0, vI v1, vI v2]) [] M res := by
  obtain ⟨e9, rfl⟩ : ∃ e9, d = e9 + 1 := ⟨d - 1, by omega⟩
  unfold gh_place at hf
  show EX Z _ 115 0 [vR 0, vI v1, vI v2, vU] [] M res
  refine ex_pu (ls' := [vR 0, vI v1, vI v2, vU]) (st' := [vR 0]) (dg dc115 0 rfl) rfl rfl ?_
  refine ex_pu (ls' := [vR 0, vI v1, vI v2, vU]) (st' := [vI v1, vR 0]) (dg dc115 1 rfl) rfl rfl ?_
  refine ex_cV (vs := [vR 0, vI v1]) (st' := []) (F := (gh_checkPlace v1 M)) (Or.inr (Or.inl ⟨rfl, (dg dc115 2 rfl)⟩)) rfl rfl (rk1 (LOC.st (Nat.le_of_ble_eq_true rfl) rfl) rfl) rfl (fun _ r9 => gh_checkPlace_ok (Z := Z) (d := e9) (by omega)  r9) hf (fun M_2 he_1 hf => ?_)
  refine ex_pu (ls' := [vR 0, vI v1, vI v2, vU]) (st' := [vR 0]) (dg dc115 3 rfl) rfl rfl ?_
  refine ex_getF (dg dc115 4 rfl) rfl (LOC.st (Nat.le_of_ble_eq_true rfl) rfl) rfl ?_
  refine ex_pu (ls' := [vR 0, vI v1, vI v2, vU]) (st' := [vI v1, vR 3]) (dg dc115 5 rfl) rfl rfl ?_
  refine ex_cI (vs := [vR 3, vI v1]) (st' := []) (F := (land_hasKeeper 3 v1 M_2)) (Or.inr (Or.inl ⟨rfl, (dg dc115 6 rfl)⟩)) rfl rfl (rk1 (LOC.st (Nat.le_of_ble_eq_true rfl) rfl) rfl) rfl (fun _ r9 => land_hasKeeper_ok (Z := Z) (d := e9) (by omega) isLand3  r9) hf (fun z_6 M_5 he_4 hf => ?_)
  refine ex_pu (ls' := [vR 0, vI v1, vI v2, vI z_6]) (st' := []) (dg dc115 7 rfl) rfl rfl ?_
  refine ex_pu (ls' := [vR 0, vI v1, vI v2, vI z_6]) (st' := [vI v2]) (dg dc115 8 rfl) rfl rfl ?_
  refine ex_bif hf (fun hc_7 hf => ?_) (fun hc_7 hf => ?_)
  · refine ex_tsw (t := 64) (dg dc115 9 rfl) hc_7 (by decide +kernel) rfl ⟨by decide, by decide, by decide⟩ rfl ?_
    refine ex_pu (ls' := [vR 0, vI v1, vI v2, vI z_6]) (st' := [vI z_6]) (dg dc115 10 rfl) rfl rfl ?_
    refine ex_if (t := 72) (dg dc115 11 rfl) rfl hf (fun _ hf => ?_) (fun _ hf => ?_)
    · refine ex_pu (ls' := [vR 0, vI v1, vI v2, vI z_6]) (st' := [vI 0]) (dg dc115 14 rfl) rfl rfl ?_
      exact ex_ire (dg dc115 15 rfl) rfl hf
    · refine ex_pu (ls' := [vR 0, vI v1, vI v2, vI z_6]) (st' := [vI 1]) (dg dc115 12 rfl) rfl rfl ?_
      refine ex_goto (t := 73) (dg dc115 13 rfl) rfl rfl ?_
      exact ex_ire (dg dc115 15 rfl) rfl hf
  ·
    refine ex_bif hf (fun hc_8 hf => ?_) (fun hc_8 hf => ?_)
    · refine ex_tsw (t := 74) (dg dc115 9 rfl) hc_8 (by decide +kernel) rfl ⟨by decide, by decide, by decide⟩ rfl ?_
      refine ex_pu (ls' := [vR 0, vI v1, vI v2, vI z_6]) (st' := [vI z_6]) (dg dc115 16 rfl) rfl rfl ?_
      refine ex_if (t := 90) (dg dc115 17 rfl) rfl hf (fun _ hf => ?_) (fun _ hf => ?_)
      · refine ex_pu (ls' := [vR 0, vI v1, vI v2, vI z_6]) (st' := [vI 0]) (dg dc115 24 rfl) rfl rfl ?_
        exact ex_ire (dg dc115 25 rfl) rfl hf
      · refine ex_pu (ls' := [vR 0, vI v1, vI v2, vI z_6]) (st' := [vR 0]) (dg dc115 18 rfl) rfl rfl ?_
        refine ex_getF (dg dc115 19 rfl) rfl (LOC.st (Nat.le_of_ble_eq_true rfl) rfl) rfl ?_
        refine ex_getO (dg dc115 20 rfl) rfl (LOC.st (Nat.le_of_ble_eq_true rfl) rfl) rfl ?_
        show EX Z _ 115 _ [vR 0, vI v1, vI v2, vI z_6] [vR 4] _ _
        refine ex_pu (ls' := [vR 0, vI v1, vI v2, vI z_6]) (st' := [vI v1, vR 4]) (dg dc115 21 rfl) rfl rfl ?_
        refine ex_iald (dg dc115 22 rfl) (LOC.st (Nat.le_of_ble_eq_true rfl) rfl) rfl hf (fun _ hf => ?_)
        refine ex_goto (t := 91) (dg dc115 23 rfl) rfl rfl ?_
        exact ex_ire (dg dc115 25 rfl) rfl hf
    ·
      refine ex_bif hf (fun hc_9 hf => ?_) (fun hc_9 hf => ?_)
      · refine ex_tsw (t := 92) (dg dc115 9 rfl) hc_9 (by decide +kernel) rfl ⟨by decide, by decide, by decide⟩ rfl ?_
        refine ex_pu (ls' := [vR 0, vI v1, vI v2, vI z_6]) (st' := [vI z_6]) (dg dc115 26 rfl) rfl rfl ?_
        refine ex_if (t := 108) (dg dc115 27 rfl) rfl hf (fun _ hf => ?_) (fun _ hf => ?_)
        · refine ex_pu (ls' := [vR 0, vI v1, vI v2, vI z_6]) (st' := [vI 0]) (dg dc115 34 rfl) rfl rfl ?_
          exact ex_ire (dg dc115 35 rfl) rfl hf
        · refine ex_pu (ls' := [vR 0, vI v1, vI v2, vI z_6]) (st' := [vR 0]) (dg dc115 28 rfl) rfl rfl ?_
          refine ex_getF (dg dc115 29 rfl) rfl (LOC.st (Nat.le_of_ble_eq_true rfl) rfl) rfl ?_
          refine ex_getO (dg dc115 30 rfl) rfl (LOC.st (Nat.le_of_ble_eq_true rfl) rfl) rfl ?_
          show EX Z _ 115 _ [vR 0, vI v1, vI v2, vI z_6] [vR 5] _ _
          refine ex_pu (ls' := [vR 0, vI v1, vI v2, vI z_6]) (st' := [vI v1, vR 5]) (dg dc115 31 rfl) rfl rfl ?_
          refine ex_iald (dg dc115 32 rfl) (LOC.st (Nat.le_of_ble_eq_true rfl) rfl) rfl hf (fun _ hf => ?_)
          refine ex_goto (t := 109) (dg dc115 33 rfl) rfl rfl ?_
          exact ex_ire (dg dc115 35 rfl) rfl hf
      ·
        refine ex_bif hf (fun hc_10 hf => ?_) (fun hc_10 hf => ?_)
        · refine ex_tsw (t := 110) (dg dc115 9 rfl) hc_10 (by decide +kernel) rfl ⟨by decide, by decide, by decide⟩ rfl ?_
          refine ex_pu (ls' := [vR 0, vI v1, vI v2, vI z_6]) (st' := [vI z_6]) (dg dc115 36 rfl) rfl rfl ?_
          refine ex_if (t := 126) (dg dc115 37 rfl) rfl hf (fun _ hf => ?_) (fun _ hf => ?_)
          · refine ex_pu (ls' := [vR 0, vI v1, vI v2, vI z_6]) (st' := [vI (-1)]) (dg dc115 44 rfl) rfl rfl ?_
            exact ex_ire (dg dc115 45 rfl) rfl hf
          · refine ex_pu (ls' := [vR 0, vI v1, vI v2, vI z_6]) (st' := [vR 0]) (dg dc115 38 rfl) rfl rfl ?_
            refine ex_getF (dg dc115 39 rfl) rfl (LOC.st (Nat.le_of_ble_eq_true rfl) rfl) rfl ?_
            refine ex_getO (dg dc115 40 rfl) rfl (LOC.st (Nat.le_of_ble_eq_true rfl) rfl) rfl ?_
            show EX Z _ 115 _ [vR 0, vI v1, vI v2, vI z_6] [vR 6] _ _
            refine ex_pu (ls' := [vR 0, vI v1, vI v2, vI z_6]) (st' := [vI v1, vR 6]) (dg dc115 41 rfl) rfl rfl ?_
            refine ex_iald (dg dc115 42 rfl) (LOC.st (Nat.le_of_ble_eq_true rfl) rfl) rfl hf (fun _ hf => ?_)
            refine ex_goto (t := 127) (dg dc115 43 rfl) rfl rfl ?_
            exact ex_ire (dg dc115 45 rfl) rfl hf
        ·
          refine ex_bif hf (fun hc_11 hf => ?_) (fun hc_11 hf => ?_)
          · refine ex_tsw (t := 128) (dg dc115 9 rfl) hc_11 (by decide +kernel) rfl ⟨by decide, by decide, by decide⟩ rfl ?_
            refine ex_pu (ls' := [vR 0, vI v1, vI v2, vI z_6]) (st' := [vI z_6]) (dg dc115 46 rfl) rfl rfl ?_
            refine ex_if (t := 144) (dg dc115 47 rfl) rfl hf (fun _ hf => ?_) (fun _ hf => ?_)
            · refine ex_pu (ls' := [vR 0, vI v1, vI v2, vI z_6]) (st' := [vI (-1)]) (dg dc115 54 rfl) rfl rfl ?_
              exact ex_ire (dg dc115 55 rfl) rfl hf
            · refine ex_pu (ls' := [vR 0, vI v1, vI v2, vI z_6]) (st' := [vR 0]) (dg dc115 48 rfl) rfl rfl ?_
              refine ex_getF (dg dc115 49 rfl) rfl (LOC.st (Nat.le_of_ble_eq_true rfl) rfl) rfl ?_
              refine ex_getO (dg dc115 50 rfl) rfl (LOC.st (Nat.le_of_ble_eq_true rfl) rfl) rfl ?_
              show EX Z _ 115 _ [vR 0, vI v1, vI v2, vI z_6] [vR 7] _ _
              refine ex_pu (ls' := [vR 0, vI v1, vI v2, vI z_6]) (st' := [vI v1, vR 7]) (dg dc115 51 rfl) rfl rfl ?_
              refine ex_iald (dg dc115 52 rfl) (LOC.st (Nat.le_of_ble_eq_true rfl) rfl) rfl hf (fun _ hf => ?_)
              refine ex_goto (t := 145) (dg dc115 53 rfl) rfl rfl ?_
              exact ex_ire (dg dc115 55 rfl) rfl hf
          ·
            refine ex_bif hf (fun hc_12 hf => ?_) (fun hc_12 hf => ?_)
            · refine ex_tsw (t := 146) (dg dc115 9 rfl) hc_12 (by decide +kernel) rfl ⟨by decide, by decide, by decide⟩ rfl ?_
              refine ex_pu (ls' := [vR 0, vI v1, vI v2, vI z_6]) (st' := [vR 0]) (dg dc115 56 rfl) rfl rfl ?_
              refine ex_getF (dg dc115 57 rfl) rfl (LOC.st (Nat.le_of_ble_eq_true rfl) rfl) rfl ?_
              refine ex_getI (dg dc115 58 rfl) rfl (LOC.st (Nat.le_of_ble_eq_true rfl) rfl) rfl ?_
              refine ex_pu (ls' := [vR 0, vI v1, vI v2, vI z_6]) (st' := [vI v1, vI (M_5 3 6)]) (dg dc115 59 rfl) rfl rfl ?_
              refine ex_cI (vs := [vI (M_5 3 6), vI v1]) (st' := []) (F := (gh_bit (M_5 3 6) v1 M_5)) (Or.inl ⟨rfl, (dg dc115 60 rfl)⟩) rfl rfl (Or.inl rfl) rfl (fun _ r9 => gh_bit_ok (Z := Z) (d := e9) (by omega)  r9) hf (fun z_15 M_14 he_13 hf => ?_)
              exact ex_ire (dg dc115 61 rfl) rfl hf
            ·
              refine ex_bif hf (fun hc_16 hf => ?_) (fun hc_16 hf => ?_)
              · refine ex_tsw (t := 158) (dg dc115 9 rfl) hc_16 (by decide +kernel) rfl ⟨by decide, by decide, by decide⟩ rfl ?_
                refine ex_pu (ls' := [vR 0, vI v1, vI v2, vI z_6]) (st' := [vR 0]) (dg dc115 62 rfl) rfl rfl ?_
                refine ex_pu (ls' := [vR 0, vI v1, vI v2, vI z_6]) (st' := [vI v1, vR 0]) (dg dc115 63 rfl) rfl rfl ?_
                refine ex_cI (vs := [vR 0, vI v1]) (st' := []) (F := (gh_giftStillHad v1 M_5)) (Or.inr (Or.inl ⟨rfl, (dg dc115 64 rfl)⟩)) rfl rfl (rk1 (LOC.st (Nat.le_of_ble_eq_true rfl) rfl) rfl) rfl (fun _ r9 => gh_giftStillHad_ok (Z := Z) (d := e9) (by omega)  r9) hf (fun z_19 M_18 he_17 hf => ?_)
                exact ex_ire (dg dc115 65 rfl) rfl hf
              ·
                refine ex_bif hf (fun hc_20 hf => ?_) (fun hc_20 hf => ?_)
                · refine ex_tsw (t := 164) (dg dc115 9 rfl) hc_20 (by decide +kernel) rfl ⟨by decide, by decide, by decide⟩ rfl ?_
                  refine ex_pu (ls' := [vR 0, vI v1, vI v2, vI z_6]) (st' := [vR 0]) (dg dc115 66 rfl) rfl rfl ?_
                  refine ex_getF (dg dc115 67 rfl) rfl (LOC.st (Nat.le_of_ble_eq_true rfl) rfl) rfl ?_
                  refine ex_getI (dg dc115 68 rfl) rfl (LOC.st (Nat.le_of_ble_eq_true rfl) rfl) rfl ?_
                  refine ex_pu (ls' := [vR 0, vI v1, vI v2, vI z_6]) (st' := [vI v1, vI (M_5 23 6)]) (dg dc115 69 rfl) rfl rfl ?_
                  refine ex_cI (vs := [vI (M_5 23 6), vI v1]) (st' := []) (F := (gh_bit (M_5 23 6) v1 M_5)) (Or.inl ⟨rfl, (dg dc115 70 rfl)⟩) rfl rfl (Or.inl rfl) rfl (fun _ r9 => gh_bit_ok (Z := Z) (d := e9) (by omega)  r9) hf (fun z_23 M_22 he_21 hf => ?_)
                  exact ex_ire (dg dc115 71 rfl) rfl hf
                ·
                  refine ex_bif hf (fun hc_24 hf => ?_) (fun hc_24 hf => ?_)
                  · refine ex_tsw (t := 176) (dg dc115 9 rfl) hc_24 (by decide +kernel) rfl ⟨by decide, by decide, by decide⟩ rfl ?_
                    refine ex_pu (ls' := [vR 0, vI v1, vI v2, vI z_6]) (st' := [vR 0]) (dg dc115 72 rfl) rfl rfl ?_
                    refine ex_getF (dg dc115 73 rfl) rfl (LOC.st (Nat.le_of_ble_eq_true rfl) rfl) rfl ?_
                    refine ex_pu (ls' := [vR 0, vI v1, vI v2, vI z_6]) (st' := [vI v1, vR 23]) (dg dc115 74 rfl) rfl rfl ?_
                    refine ex_cI (vs := [vR 23, vI v1]) (st' := []) (F := (jny_lying 23 v1 M_5)) (Or.inr (Or.inl ⟨rfl, (dg dc115 75 rfl)⟩)) rfl rfl (rk1 (LOC.st (Nat.le_of_ble_eq_true rfl) rfl) rfl) rfl (fun _ r9 => jny_lying_ok (Z := Z) (d := e9) (by omega) isJny23  r9) hf (fun z_27 M_26 he_25 hf => ?_)
                    exact ex_ire (dg dc115 76 rfl) rfl hf
                  · refine ex_tsd (t := 185) (dg dc115 9 rfl) (sw_out (lo := 0) (hi := 8) (fun j h1 h2 => by have hj : j = 0 ∨ j = 1 ∨ j = 2 ∨ j = 3 ∨ j = 4 ∨ j = 5 ∨ j = 6 ∨ j = 7 ∨ j = 8 := (by omega); rcases hj with rfl | rfl | rfl | rfl | rfl | rfl | rfl | rfl | rfl <;> first | exact ⟨hc_7, by decide +kernel⟩ | exact ⟨hc_8, by decide +kernel⟩ | exact ⟨hc_9, by decide +kernel⟩ | exact ⟨hc_10, by decide +kernel⟩ | exact ⟨hc_11, by decide +kernel⟩ | exact ⟨hc_12, by decide +kernel⟩ | exact ⟨hc_16, by decide +kernel⟩ | exact ⟨hc_20, by decide +kernel⟩ | exact ⟨hc_24, by decide +kernel⟩)) rfl ?_
                    exact ex_thr (ci := 16) (is := 203) (ic := 205) (ln := 9) (dg dc115 77 rfl) rfl (exN_of rfl (dg dc115 78 rfl) (dg dc115 79 rfl) (dg dc115 80 rfl) rfl rfl rfl) (dg dc115 81 rfl) rfl ⟨by decide, by decide⟩ hf
-- GlassHill.rule
def il121 : List (Nat × Instr × Nat) := [(0, .aload_n 0, 1), (1, .iload_n 1, 1), (2, .invokevirtual 227, 3), (5, .aload_n 0, 1), (6, .getfield 19, 3), (9, .iload_n 1, 1), (10, .aload_n 0, 1), (11, .getfield 33, 3), (14, .getfield 260, 3), (17, .invokevirtual 275, 3), (20, .iconst (-1), 1), (21, .if_icmp .ne 14, 3), (24, .new 278, 3), (27, .dup, 1), (28, .ldc_w 280, 3), (31, .invokespecial 282, 3), (34, .athrow, 1), (35, .iload_n 2, 1), (36, .ifCond .lt 8, 3), (39, .iload_n 2, 1), (40, .iconst 2, 1), (41, .if_icmp .le 13, 3), (44, .new 201, 3), (47, .dup, 1), (48, .ldc 203, 2), (50, .invokespecial 205, 3), (53, .athrow, 1), (54, .iload_n 2, 1), (55, .iconst 2, 1), (56, .if_icmp .ne 18, 3), (59, .aload_n 0, 1), (60, .iload_n 1, 1), (61, .invokevirtual 283, 3), (64, .iconst (-1), 1), (65, .if_icmp .ne 7, 3), (68, .iconst 0, 1), (69, .goto 4, 3), (72, .iconst 1, 1), (73, .ireturn, 1), (74, .aload_n 0, 1), (75, .getfield 89, 3), (78, .iload_n 1, 1), (79, .aload_n 0, 1), (80, .getfield 33, 3), (83, .getfield 260, 3), (86, .aload_n 0, 1), (87, .getfield 33, 3), (90, .getfield 269, 3), (93, .aload_n 0, 1), (94, .getfield 33, 3), (97, .getfield 263, 3), (100, .invokevirtual 286, 3), (103, .iload_n 2, 1), (104, .ifCond .ne 19, 3), (107, .aload_n 0, 1), (108, .getfield 89, 3), (111, .getfield 290, 3), (114, .ifCond .eq 7, 3), (117, .iconst 1, 1), (118, .goto 4, 3), (121, .iconst 0, 1), (122, .ireturn, 1), (123, .aload_n 0, 1), (124, .getfield 89, 3), (127, .getfield 293, 3), (130, .ireturn, 1)]
theorem dc121 : dcs (mC 121) il121 := dc_of (by decide +kernel)
def gh_rule (v1 : Int) (v2 : Int) (M : MM) : OR :=
  (bV (gh_checkRoad v1 M) fun M_2 => (bI (land_otherEnd 3 v1 (M_2 23 0) M_2) fun z_6 M_5 => (bif cmpB .ne z_6 (-1) then (bif cmpB .lt v2 0 then thx 16 M_5 else (bif cmpB .le v2 2 then (bif cmpB .ne v2 2 then (bV (stps_judge v1 (M_5 23 0) (M_5 23 3) (M_5 23 1) M_5) fun M_8 => (bif cmpB .ne v2 0 then some (rI (M_8 157 1), M_8) else (bif cmpB .eq (M_8 157 0) 0 then some (rI 0, M_8) else some (rI 1, M_8)))) else (bI (gh_arrivalNow v1 M_5) fun z_12 M_11 => (bif cmpB .ne z_12 (-1) then some (rI 1, M_11) else some (rI 0, M_11)))) else thx 16 M_5)) else thx 14 M_5)))
set_option maxRecDepth 4000 in
theorem gh_rule_ok {Z : Nat × (Nat → Int)} {d : Nat} (hd : 5 ≤ d) {M : MM}  {v1 v2 : Int} {res : AR × MM} (hf : gh_rule v1 v2 M = some res) : EX Z d 121 0 (ent 121 [vR 0, vI v1, vI v2]) [] M res := by
  obtain ⟨e9, rfl⟩ : ∃ e9, d = e9 + 1 := ⟨d - 1, by omega⟩
  unfold gh_rule at hf
  show EX Z _ 121 0 [vR 0, vI v1, vI v2] [] M res
  refine ex_pu (ls' := [vR 0, vI v1, vI v2]) (st' := [vR 0]) (dg dc121 0 rfl) rfl rfl ?_
  refine ex_pu (ls' := [vR 0, vI v1, vI v2]) (st' := [vI v1, vR 0]) (dg dc121 1 rfl) rfl rfl ?_
  refine ex_cV (vs := [vR 0, vI v1]) (st' := []) (F := (gh_checkRoad v1 M)) (Or.inr (Or.inl ⟨rfl, (dg dc121 2 rfl)⟩)) rfl rfl (rk1 (LOC.st (Nat.le_of_ble_eq_true rfl) rfl) rfl) rfl (fun _ r9 => gh_checkRoad_ok (Z := Z) (d := e9) (by omega)  r9) hf (fun M_2 he_1 hf => ?_)
  refine ex_pu (ls' := [vR 0, vI v1, vI v2]) (st' := [vR 0]) (dg dc121 3 rfl) rfl rfl ?_
  refine ex_getF (dg dc121 4 rfl) rfl (LOC.st (Nat.le_of_ble_eq_true rfl) rfl) rfl ?_
  refine ex_pu (ls' := [vR 0, vI v1, vI v2]) (st' := [vI v1, vR 3]) (dg dc121 5 rfl) rfl rfl ?_
  refine ex_pu (ls' := [vR 0, vI v1, vI v2]) (st' := [vR 0, vI v1, vR 3]) (dg dc121 6 rfl) rfl rfl ?_
  refine ex_getF (dg dc121 7 rfl) rfl (LOC.st (Nat.le_of_ble_eq_true rfl) rfl) rfl ?_
  refine ex_getI (dg dc121 8 rfl) rfl (LOC.st (Nat.le_of_ble_eq_true rfl) rfl) rfl ?_
  refine ex_cI (vs := [vR 3, vI v1, vI (M_2 23 0)]) (st' := []) (F := (land_otherEnd 3 v1 (M_2 23 0) M_2)) (Or.inr (Or.inl ⟨rfl, (dg dc121 9 rfl)⟩)) rfl rfl (rk1 (LOC.st (Nat.le_of_ble_eq_true rfl) rfl) rfl) rfl (fun _ r9 => land_otherEnd_ok (Z := Z) (d := e9) (by omega) isLand3  r9) hf (fun z_6 M_5 he_4 hf => ?_)
  refine ex_pu (ls' := [vR 0, vI v1, vI v2]) (st' := [vI (-1), vI z_6]) (dg dc121 10 rfl) rfl rfl ?_
  refine ex_icmp (t := 35) (dg dc121 11 rfl) rfl hf (fun _ hf => ?_) (fun _ hf => ?_)
  · refine ex_pu (ls' := [vR 0, vI v1, vI v2]) (st' := [vI v2]) (dg dc121 17 rfl) rfl rfl ?_
    refine ex_if (t := 44) (dg dc121 18 rfl) rfl hf (fun _ hf => ?_) (fun _ hf => ?_)
    · exact ex_thr (ci := 16) (is := 203) (ic := 205) (ln := 9) (dg dc121 22 rfl) rfl (exN_of rfl (dg dc121 23 rfl) (dg dc121 24 rfl) (dg dc121 25 rfl) rfl rfl rfl) (dg dc121 26 rfl) rfl ⟨by decide, by decide⟩ hf
    · refine ex_pu (ls' := [vR 0, vI v1, vI v2]) (st' := [vI v2]) (dg dc121 19 rfl) rfl rfl ?_
      refine ex_pu (ls' := [vR 0, vI v1, vI v2]) (st' := [vI 2, vI v2]) (dg dc121 20 rfl) rfl rfl ?_
      refine ex_icmp (t := 54) (dg dc121 21 rfl) rfl hf (fun _ hf => ?_) (fun _ hf => ?_)
      · refine ex_pu (ls' := [vR 0, vI v1, vI v2]) (st' := [vI v2]) (dg dc121 27 rfl) rfl rfl ?_
        refine ex_pu (ls' := [vR 0, vI v1, vI v2]) (st' := [vI 2, vI v2]) (dg dc121 28 rfl) rfl rfl ?_
        refine ex_icmp (t := 74) (dg dc121 29 rfl) rfl hf (fun _ hf => ?_) (fun _ hf => ?_)
        · refine ex_pu (ls' := [vR 0, vI v1, vI v2]) (st' := [vR 0]) (dg dc121 39 rfl) rfl rfl ?_
          refine ex_getF (dg dc121 40 rfl) rfl (LOC.st (Nat.le_of_ble_eq_true rfl) rfl) rfl ?_
          refine ex_pu (ls' := [vR 0, vI v1, vI v2]) (st' := [vI v1, vR 157]) (dg dc121 41 rfl) rfl rfl ?_
          refine ex_pu (ls' := [vR 0, vI v1, vI v2]) (st' := [vR 0, vI v1, vR 157]) (dg dc121 42 rfl) rfl rfl ?_
          refine ex_getF (dg dc121 43 rfl) rfl (LOC.st (Nat.le_of_ble_eq_true rfl) rfl) rfl ?_
          refine ex_getI (dg dc121 44 rfl) rfl (LOC.st (Nat.le_of_ble_eq_true rfl) rfl) rfl ?_
          refine ex_pu (ls' := [vR 0, vI v1, vI v2]) (st' := [vR 0, vI (M_5 23 0), vI v1, vR 157]) (dg dc121 45 rfl) rfl rfl ?_
          refine ex_getF (dg dc121 46 rfl) rfl (LOC.st (Nat.le_of_ble_eq_true rfl) rfl) rfl ?_
          refine ex_getI (dg dc121 47 rfl) rfl (LOC.st (Nat.le_of_ble_eq_true rfl) rfl) rfl ?_
          refine ex_pu (ls' := [vR 0, vI v1, vI v2]) (st' := [vR 0, vI (M_5 23 3), vI (M_5 23 0), vI v1, vR 157]) (dg dc121 48 rfl) rfl rfl ?_
          refine ex_getF (dg dc121 49 rfl) rfl (LOC.st (Nat.le_of_ble_eq_true rfl) rfl) rfl ?_
          refine ex_getI (dg dc121 50 rfl) rfl (LOC.st (Nat.le_of_ble_eq_true rfl) rfl) rfl ?_
          refine ex_cV (vs := [vR 157, vI v1, vI (M_5 23 0), vI (M_5 23 3), vI (M_5 23 1)]) (st' := []) (F := (stps_judge v1 (M_5 23 0) (M_5 23 3) (M_5 23 1) M_5)) (Or.inr (Or.inl ⟨rfl, (dg dc121 51 rfl)⟩)) rfl rfl (rk1 (LOC.st (Nat.le_of_ble_eq_true rfl) rfl) rfl) rfl (fun _ r9 => stps_judge_ok (Z := Z) (d := e9) (by omega)  r9) hf (fun M_8 he_7 hf => ?_)
          refine ex_pu (ls' := [vR 0, vI v1, vI v2]) (st' := [vI v2]) (dg dc121 52 rfl) rfl rfl ?_
          refine ex_if (t := 123) (dg dc121 53 rfl) rfl hf (fun _ hf => ?_) (fun _ hf => ?_)
          · refine ex_pu (ls' := [vR 0, vI v1, vI v2]) (st' := [vR 0]) (dg dc121 62 rfl) rfl rfl ?_
            refine ex_getF (dg dc121 63 rfl) rfl (LOC.st (Nat.le_of_ble_eq_true rfl) rfl) rfl ?_
            refine ex_getI (dg dc121 64 rfl) rfl (LOC.st (Nat.le_of_ble_eq_true rfl) rfl) rfl ?_
            exact ex_ire (dg dc121 65 rfl) rfl hf
          · refine ex_pu (ls' := [vR 0, vI v1, vI v2]) (st' := [vR 0]) (dg dc121 54 rfl) rfl rfl ?_
            refine ex_getF (dg dc121 55 rfl) rfl (LOC.st (Nat.le_of_ble_eq_true rfl) rfl) rfl ?_
            refine ex_getI (dg dc121 56 rfl) rfl (LOC.st (Nat.le_of_ble_eq_true rfl) rfl) rfl ?_
            refine ex_if (t := 121) (dg dc121 57 rfl) rfl hf (fun _ hf => ?_) (fun _ hf => ?_)
            · refine ex_pu (ls' := [vR 0, vI v1, vI v2]) (st' := [vI 0]) (dg dc121 60 rfl) rfl rfl ?_
              exact ex_ire (dg dc121 61 rfl) rfl hf
            · refine ex_pu (ls' := [vR 0, vI v1, vI v2]) (st' := [vI 1]) (dg dc121 58 rfl) rfl rfl ?_
              refine ex_goto (t := 122) (dg dc121 59 rfl) rfl rfl ?_
              exact ex_ire (dg dc121 61 rfl) rfl hf
        · refine ex_pu (ls' := [vR 0, vI v1, vI v2]) (st' := [vR 0]) (dg dc121 30 rfl) rfl rfl ?_
          refine ex_pu (ls' := [vR 0, vI v1, vI v2]) (st' := [vI v1, vR 0]) (dg dc121 31 rfl) rfl rfl ?_
          refine ex_cI (vs := [vR 0, vI v1]) (st' := []) (F := (gh_arrivalNow v1 M_5)) (Or.inr (Or.inl ⟨rfl, (dg dc121 32 rfl)⟩)) rfl rfl (rk1 (LOC.st (Nat.le_of_ble_eq_true rfl) rfl) rfl) rfl (fun _ r9 => gh_arrivalNow_ok (Z := Z) (d := e9) (by omega)  r9) hf (fun z_12 M_11 he_10 hf => ?_)
          refine ex_pu (ls' := [vR 0, vI v1, vI v2]) (st' := [vI (-1), vI z_12]) (dg dc121 33 rfl) rfl rfl ?_
          refine ex_icmp (t := 72) (dg dc121 34 rfl) rfl hf (fun _ hf => ?_) (fun _ hf => ?_)
          · refine ex_pu (ls' := [vR 0, vI v1, vI v2]) (st' := [vI 1]) (dg dc121 37 rfl) rfl rfl ?_
            exact ex_ire (dg dc121 38 rfl) rfl hf
          · refine ex_pu (ls' := [vR 0, vI v1, vI v2]) (st' := [vI 0]) (dg dc121 35 rfl) rfl rfl ?_
            refine ex_goto (t := 73) (dg dc121 36 rfl) rfl rfl ?_
            exact ex_ire (dg dc121 38 rfl) rfl hf
      · exact ex_thr (ci := 16) (is := 203) (ic := 205) (ln := 9) (dg dc121 22 rfl) rfl (exN_of rfl (dg dc121 23 rfl) (dg dc121 24 rfl) (dg dc121 25 rfl) rfl rfl rfl) (dg dc121 26 rfl) rfl ⟨by decide, by decide⟩ hf
  · exact ex_thr (ci := 14) (is := 280) (ic := 282) (ln := 10) (dg dc121 12 rfl) rfl (exN_ofW rfl (dg dc121 13 rfl) (dg dc121 14 rfl) (dg dc121 15 rfl) rfl rfl rfl) (dg dc121 16 rfl) rfl ⟨by decide, by decide⟩ hf
-- GlassHill.go
def il125 : List (Nat × Instr × Nat) := [(0, .aload_n 0, 1), (1, .iload_n 1, 1), (2, .invokevirtual 227, 3), (5, .aload_n 0, 1), (6, .iload_n 1, 1), (7, .invokevirtual 283, 3), (10, .istore_n 2, 1), (11, .iload_n 2, 1), (12, .iconst (-1), 1), (13, .if_icmp .ne 14, 3), (16, .new 278, 3), (19, .dup, 1), (20, .ldc_w 337, 3), (23, .invokespecial 282, 3), (26, .athrow, 1), (27, .aload_n 0, 1), (28, .invokevirtual 339, 3), (31, .aload_n 0, 1), (32, .getfield 33, 3), (35, .aload_n 0, 1), (36, .getfield 19, 3), (39, .iload_n 1, 1), (40, .aload_n 0, 1), (41, .getfield 33, 3), (44, .getfield 260, 3), (47, .invokevirtual 275, 3), (50, .putfield 260, 3), (53, .aload_n 0, 1), (54, .getfield 33, 3), (57, .iload_n 2, 1), (58, .putfield 263, 3), (61, .aload_n 0, 1), (62, .getfield 33, 3), (65, .iload_n 1, 1), (66, .putfield 266, 3), (69, .iload_n 2, 1), (70, .ireturn, 1)]
theorem dc125 : dcs (mC 125) il125 := dc_of (by decide +kernel)
def gh_go (v1 : Int) (M : MM) : OR :=
  (bV (gh_checkRoad v1 M) fun M_2 => (bI (gh_arrivalNow v1 M_2) fun z_6 M_5 => (bif cmpB .ne z_6 (-1) then (bV (gh_rememberAct  M_5) fun M_8 => (bI (land_otherEnd 3 v1 (M_8 23 0) M_8) fun z_12 M_11 => (sM (mU M_11 23 0 z_12) fun M_13 => (sM (mU M_13 23 1 z_6) fun M_15 => (sM (mU M_15 23 2 v1) fun M_17 => some (rI z_6, M_17)))))) else thx 14 M_5)))
set_option maxRecDepth 4000 in
theorem gh_go_ok {Z : Nat × (Nat → Int)} {d : Nat} (hd : 5 ≤ d) {M : MM}  {v1 : Int} {res : AR × MM} (hf : gh_go v1 M = some res) : EX Z d 125 0 (ent 125 [vR 0, vI v1]) [] M res := by
  obtain ⟨e9, rfl⟩ : ∃ e9, d = e9 + 1 := ⟨d - 1, by omega⟩
  unfold gh_go at hf
  show EX Z _ 125 0 [vR 0, vI v1, vU] [] M res
  refine ex_pu (ls' := [vR 0, vI v1, vU]) (st' := [vR 0]) (dg dc125 0 rfl) rfl rfl ?_
  refine ex_pu (ls' := [vR 0, vI v1, vU]) (st' := [vI v1, vR 0]) (dg dc125 1 rfl) rfl rfl ?_
  refine ex_cV (vs := [vR 0, vI v1]) (st' := []) (F := (gh_checkRoad v1 M)) (Or.inr (Or.inl ⟨rfl, (dg dc125 2 rfl)⟩)) rfl rfl (rk1 (LOC.st (Nat.le_of_ble_eq_true rfl) rfl) rfl) rfl (fun _ r9 => gh_checkRoad_ok (Z := Z) (d := e9) (by omega)  r9) hf (fun M_2 he_1 hf => ?_)
  refine ex_pu (ls' := [vR 0, vI v1, vU]) (st' := [vR 0]) (dg dc125 3 rfl) rfl rfl ?_
  refine ex_pu (ls' := [vR 0, vI v1, vU]) (st' := [vI v1, vR 0]) (dg dc125 4 rfl) rfl rfl ?_
  refine ex_cI (vs := [vR 0, vI v1]) (st' := []) (F := (gh_arrivalNow v1 M_2)) (Or.inr (Or.inl ⟨rfl, (dg dc125 5 rfl)⟩)) rfl rfl (rk1 (LOC.st (Nat.le_of_ble_eq_true rfl) rfl) rfl) rfl (fun _ r9 => gh_arrivalNow_ok (Z := Z) (d := e9) (by omega)  r9) hf (fun z_6 M_5 he_4 hf => ?_)
  refine ex_pu (ls' := [vR 0, vI v1, vI z_6]) (st' := []) (dg dc125 6 rfl) rfl rfl ?_
  refine ex_pu (ls' := [vR 0, vI v1, vI z_6]) (st' := [vI z_6]) (dg dc125 7 rfl) rfl rfl ?_
  refine ex_pu (ls' := [vR 0, vI v1, vI z_6]) (st' := [vI (-1), vI z_6]) (dg dc125 8 rfl) rfl rfl ?_
  refine ex_icmp (t := 27) (dg dc125 9 rfl) rfl hf (fun _ hf => ?_) (fun _ hf => ?_)
  · refine ex_pu (ls' := [vR 0, vI v1, vI z_6]) (st' := [vR 0]) (dg dc125 15 rfl) rfl rfl ?_
    refine ex_cV (vs := [vR 0]) (st' := []) (F := (gh_rememberAct  M_5)) (Or.inr (Or.inl ⟨rfl, (dg dc125 16 rfl)⟩)) rfl rfl (rk1 (LOC.st (Nat.le_of_ble_eq_true rfl) rfl) rfl) rfl (fun _ r9 => gh_rememberAct_ok (Z := Z) (d := e9) (by omega)  r9) hf (fun M_8 he_7 hf => ?_)
    refine ex_pu (ls' := [vR 0, vI v1, vI z_6]) (st' := [vR 0]) (dg dc125 17 rfl) rfl rfl ?_
    refine ex_getF (dg dc125 18 rfl) rfl (LOC.st (Nat.le_of_ble_eq_true rfl) rfl) rfl ?_
    refine ex_pu (ls' := [vR 0, vI v1, vI z_6]) (st' := [vR 0, vR 23]) (dg dc125 19 rfl) rfl rfl ?_
    refine ex_getF (dg dc125 20 rfl) rfl (LOC.st (Nat.le_of_ble_eq_true rfl) rfl) rfl ?_
    refine ex_pu (ls' := [vR 0, vI v1, vI z_6]) (st' := [vI v1, vR 3, vR 23]) (dg dc125 21 rfl) rfl rfl ?_
    refine ex_pu (ls' := [vR 0, vI v1, vI z_6]) (st' := [vR 0, vI v1, vR 3, vR 23]) (dg dc125 22 rfl) rfl rfl ?_
    refine ex_getF (dg dc125 23 rfl) rfl (LOC.st (Nat.le_of_ble_eq_true rfl) rfl) rfl ?_
    refine ex_getI (dg dc125 24 rfl) rfl (LOC.st (Nat.le_of_ble_eq_true rfl) rfl) rfl ?_
    refine ex_cI (vs := [vR 3, vI v1, vI (M_8 23 0)]) (st' := [vR 23]) (F := (land_otherEnd 3 v1 (M_8 23 0) M_8)) (Or.inr (Or.inl ⟨rfl, (dg dc125 25 rfl)⟩)) rfl rfl (rk1 (LOC.st (Nat.le_of_ble_eq_true rfl) rfl) rfl) rfl (fun _ r9 => land_otherEnd_ok (Z := Z) (d := e9) (by omega) isLand3  r9) hf (fun z_12 M_11 he_10 hf => ?_)
    refine ex_putI (dg dc125 26 rfl) rfl (LOC.st (Nat.le_of_ble_eq_true rfl) rfl) rfl rfl rfl ?_
    refine ex_gen hf (fun M_13 hM_14 hf => ?_)
    refine ex_pu (ls' := [vR 0, vI v1, vI z_6]) (st' := [vR 0]) (dg dc125 27 rfl) rfl rfl ?_
    refine ex_getF (dg dc125 28 rfl) rfl (LOC.st (Nat.le_of_ble_eq_true rfl) rfl) rfl ?_
    refine ex_pu (ls' := [vR 0, vI v1, vI z_6]) (st' := [vI z_6, vR 23]) (dg dc125 29 rfl) rfl rfl ?_
    refine ex_putI (dg dc125 30 rfl) rfl (LOC.st (Nat.le_of_ble_eq_true rfl) rfl) rfl rfl rfl ?_
    refine ex_gen hf (fun M_15 hM_16 hf => ?_)
    refine ex_pu (ls' := [vR 0, vI v1, vI z_6]) (st' := [vR 0]) (dg dc125 31 rfl) rfl rfl ?_
    refine ex_getF (dg dc125 32 rfl) rfl (LOC.st (Nat.le_of_ble_eq_true rfl) rfl) rfl ?_
    refine ex_pu (ls' := [vR 0, vI v1, vI z_6]) (st' := [vI v1, vR 23]) (dg dc125 33 rfl) rfl rfl ?_
    refine ex_putI (dg dc125 34 rfl) rfl (LOC.st (Nat.le_of_ble_eq_true rfl) rfl) rfl rfl rfl ?_
    refine ex_gen hf (fun M_17 hM_18 hf => ?_)
    refine ex_pu (ls' := [vR 0, vI v1, vI z_6]) (st' := [vI z_6]) (dg dc125 35 rfl) rfl rfl ?_
    exact ex_ire (dg dc125 36 rfl) rfl hf
  · exact ex_thr (ci := 14) (is := 337) (ic := 282) (ln := 10) (dg dc125 10 rfl) rfl (exN_ofW rfl (dg dc125 11 rfl) (dg dc125 12 rfl) (dg dc125 13 rfl) rfl rfl rfl) (dg dc125 14 rfl) rfl ⟨by decide, by decide⟩ hf
-- GlassHill.pay
def il127 : List (Nat × Instr × Nat) := [(0, .aload_n 0, 1), (1, .iload_n 1, 1), (2, .invokevirtual 212, 3), (5, .aload_n 0, 1), (6, .getfield 33, 3), (9, .getfield 260, 3), (12, .istore_n 2, 1), (13, .aload_n 0, 1), (14, .getfield 19, 3), (17, .iload_n 2, 1), (18, .aload_n 0, 1), (19, .getfield 33, 3), (22, .getfield 195, 3), (25, .invokevirtual 349, 3), (28, .ifCond .eq 37, 3), (31, .aload_n 0, 1), (32, .getfield 33, 3), (35, .getfield 269, 3), (38, .iload_n 1, 1), (39, .invokestatic 187, 3), (42, .ifCond .eq 23, 3), (45, .aload_n 0, 1), (46, .getfield 19, 3), (49, .aload_n 0, 1), (50, .getfield 19, 3), (53, .getfield 215, 3), (56, .iload_n 1, 1), (57, .iaload, 1), (58, .iload_n 2, 1), (59, .invokevirtual 297, 3), (62, .ifCond .ne 14, 3), (65, .new 278, 3), (68, .dup, 1), (69, .ldc_w 352, 3), (72, .invokespecial 282, 3), (75, .athrow, 1), (76, .aload_n 0, 1), (77, .invokevirtual 339, 3), (80, .aload_n 0, 1), (81, .getfield 33, 3), (84, .iload_n 2, 1), (85, .iload_n 1, 1), (86, .invokevirtual 354, 3), (89, .aload_n 0, 1), (90, .getfield 19, 3), (93, .getfield 184, 3), (96, .iload_n 2, 1), (97, .invokestatic 187, 3), (100, .iconst 1, 1), (101, .if_icmp .ne 11, 3), (104, .aload_n 0, 1), (105, .getfield 33, 3), (108, .iload_n 1, 1), (109, .invokevirtual 358, 3), (112, .aload_n 0, 1), (113, .getfield 19, 3), (116, .getfield 206, 3), (119, .iload_n 2, 1), (120, .iaload, 1), (121, .istore_n 3, 1), (122, .iload_n 3, 1), (123, .iconst (-1), 1), (124, .if_icmp .eq 11, 3), (127, .aload_n 0, 1), (128, .getfield 33, 3), (131, .iload_n 3, 1), (132, .invokevirtual 361, 3), (135, .iload_n 3, 1), (136, .ireturn, 1)]
theorem dc127 : dcs (mC 127) il127 := dc_of (by decide +kernel)
def gh_pay (v1 : Int) (M : MM) : OR :=
  (bV (gh_checkThing v1 M) fun M_2 => (bI (land_isHeldBy 3 (M_2 23 0) (M_2 23 6) M_2) fun z_6 M_5 => (bif cmpB .eq z_6 0 then thx 14 M_5 else (bI (gh_bit (M_5 23 3) v1 M_5) fun z_9 M_8 => (bif cmpB .eq z_9 0 then thx 14 M_8 else (bif inB v1 10 then (bI (land_opens 3 (M_8 9 (v1).toNat) (M_2 23 0) M_8) fun z_12 M_11 => (bif cmpB .ne z_12 0 then (bV (gh_rememberAct  M_11) fun M_14 => (bV (jny_letPass 23 (M_2 23 0) v1 M_14) fun M_17 => (bI (gh_bit (M_17 3 6) (M_2 23 0) M_17) fun z_21 M_20 => (bif cmpB .ne z_21 1 then (bif inB (M_2 23 0) 10 then (bif cmpB .eq (M_20 8 ((M_2 23 0)).toNat) (-1) then some (rI (M_20 8 ((M_2 23 0)).toNat), M_20) else (bV (jny_receive 23 (M_20 8 ((M_2 23 0)).toNat) M_20) fun M_23 => some (rI (M_20 8 ((M_2 23 0)).toNat), M_23))) else none) else (bV (jny_lose 23 v1 M_20) fun M_26 => (bif inB (M_2 23 0) 10 then (bif cmpB .eq (M_26 8 ((M_2 23 0)).toNat) (-1) then some (rI (M_26 8 ((M_2 23 0)).toNat), M_26) else (bV (jny_receive 23 (M_26 8 ((M_2 23 0)).toNat) M_26) fun M_29 => some (rI (M_26 8 ((M_2 23 0)).toNat), M_29))) else none)))))) else thx 14 M_11)) else none))))))
set_option maxRecDepth 4000 in
theorem gh_pay_ok {Z : Nat × (Nat → Int)} {d : Nat} (hd : 4 ≤ d) {M : MM}  {v1 : Int} {res : AR × MM} (hf : gh_pay v1 M = some res) : EX Z d 127 0 (ent 127 [vR 0, vI v1]) [] M res := by
  obtain ⟨e9, rfl⟩ : ∃ e9, d = e9 + 1 := ⟨d - 1, by omega⟩
  unfold gh_pay at hf
  show EX Z _ 127 0 [vR 0, vI v1, vU, vU] [] M res
  refine ex_pu (ls' := [vR 0, vI v1, vU, vU]) (st' := [vR 0]) (dg dc127 0 rfl) rfl rfl ?_
  refine ex_pu (ls' := [vR 0, vI v1, vU, vU]) (st' := [vI v1, vR 0]) (dg dc127 1 rfl) rfl rfl ?_
  refine ex_cV (vs := [vR 0, vI v1]) (st' := []) (F := (gh_checkThing v1 M)) (Or.inr (Or.inl ⟨rfl, (dg dc127 2 rfl)⟩)) rfl rfl (rk1 (LOC.st (Nat.le_of_ble_eq_true rfl) rfl) rfl) rfl (fun _ r9 => gh_checkThing_ok (Z := Z) (d := e9) (by omega)  r9) hf (fun M_2 he_1 hf => ?_)
  refine ex_pu (ls' := [vR 0, vI v1, vU, vU]) (st' := [vR 0]) (dg dc127 3 rfl) rfl rfl ?_
  refine ex_getF (dg dc127 4 rfl) rfl (LOC.st (Nat.le_of_ble_eq_true rfl) rfl) rfl ?_
  refine ex_getI (dg dc127 5 rfl) rfl (LOC.st (Nat.le_of_ble_eq_true rfl) rfl) rfl ?_
  refine ex_pu (ls' := [vR 0, vI v1, vI (M_2 23 0), vU]) (st' := []) (dg dc127 6 rfl) rfl rfl ?_
  refine ex_pu (ls' := [vR 0, vI v1, vI (M_2 23 0), vU]) (st' := [vR 0]) (dg dc127 7 rfl) rfl rfl ?_
  refine ex_getF (dg dc127 8 rfl) rfl (LOC.st (Nat.le_of_ble_eq_true rfl) rfl) rfl ?_
  refine ex_pu (ls' := [vR 0, vI v1, vI (M_2 23 0), vU]) (st' := [vI (M_2 23 0), vR 3]) (dg dc127 9 rfl) rfl rfl ?_
  refine ex_pu (ls' := [vR 0, vI v1, vI (M_2 23 0), vU]) (st' := [vR 0, vI (M_2 23 0), vR 3]) (dg dc127 10 rfl) rfl rfl ?_
  refine ex_getF (dg dc127 11 rfl) rfl (LOC.st (Nat.le_of_ble_eq_true rfl) rfl) rfl ?_
  refine ex_getI (dg dc127 12 rfl) rfl (LOC.st (Nat.le_of_ble_eq_true rfl) rfl) rfl ?_
  refine ex_cI (vs := [vR 3, vI (M_2 23 0), vI (M_2 23 6)]) (st' := []) (F := (land_isHeldBy 3 (M_2 23 0) (M_2 23 6) M_2)) (Or.inr (Or.inl ⟨rfl, (dg dc127 13 rfl)⟩)) rfl rfl (rk1 (LOC.st (Nat.le_of_ble_eq_true rfl) rfl) rfl) rfl (fun _ r9 => land_isHeldBy_ok (Z := Z) (d := e9) (by omega) isLand3  r9) hf (fun z_6 M_5 he_4 hf => ?_)
  refine ex_if (t := 65) (dg dc127 14 rfl) rfl hf (fun _ hf => ?_) (fun _ hf => ?_)
  · exact ex_thr (ci := 14) (is := 352) (ic := 282) (ln := 10) (dg dc127 31 rfl) rfl (exN_ofW rfl (dg dc127 32 rfl) (dg dc127 33 rfl) (dg dc127 34 rfl) rfl rfl rfl) (dg dc127 35 rfl) rfl ⟨by decide, by decide⟩ hf
  · refine ex_pu (ls' := [vR 0, vI v1, vI (M_2 23 0), vU]) (st' := [vR 0]) (dg dc127 15 rfl) rfl rfl ?_
    refine ex_getF (dg dc127 16 rfl) rfl (LOC.st (Nat.le_of_ble_eq_true rfl) rfl) rfl ?_
    refine ex_getI (dg dc127 17 rfl) rfl (LOC.st (Nat.le_of_ble_eq_true rfl) rfl) rfl ?_
    refine ex_pu (ls' := [vR 0, vI v1, vI (M_2 23 0), vU]) (st' := [vI v1, vI (M_5 23 3)]) (dg dc127 18 rfl) rfl rfl ?_
    refine ex_cI (vs := [vI (M_5 23 3), vI v1]) (st' := []) (F := (gh_bit (M_5 23 3) v1 M_5)) (Or.inl ⟨rfl, (dg dc127 19 rfl)⟩) rfl rfl (Or.inl rfl) rfl (fun _ r9 => gh_bit_ok (Z := Z) (d := e9) (by omega)  r9) hf (fun z_9 M_8 he_7 hf => ?_)
    refine ex_if (t := 65) (dg dc127 20 rfl) rfl hf (fun _ hf => ?_) (fun _ hf => ?_)
    · exact ex_thr (ci := 14) (is := 352) (ic := 282) (ln := 10) (dg dc127 31 rfl) rfl (exN_ofW rfl (dg dc127 32 rfl) (dg dc127 33 rfl) (dg dc127 34 rfl) rfl rfl rfl) (dg dc127 35 rfl) rfl ⟨by decide, by decide⟩ hf
    · refine ex_pu (ls' := [vR 0, vI v1, vI (M_2 23 0), vU]) (st' := [vR 0]) (dg dc127 21 rfl) rfl rfl ?_
      refine ex_getF (dg dc127 22 rfl) rfl (LOC.st (Nat.le_of_ble_eq_true rfl) rfl) rfl ?_
      refine ex_pu (ls' := [vR 0, vI v1, vI (M_2 23 0), vU]) (st' := [vR 0, vR 3]) (dg dc127 23 rfl) rfl rfl ?_
      refine ex_getF (dg dc127 24 rfl) rfl (LOC.st (Nat.le_of_ble_eq_true rfl) rfl) rfl ?_
      refine ex_getO (dg dc127 25 rfl) rfl (LOC.st (Nat.le_of_ble_eq_true rfl) rfl) rfl ?_
      show EX Z _ 127 _ [vR 0, vI v1, vI (M_2 23 0), vU] [vR 9, vR 3] _ _
      refine ex_pu (ls' := [vR 0, vI v1, vI (M_2 23 0), vU]) (st' := [vI v1, vR 9, vR 3]) (dg dc127 26 rfl) rfl rfl ?_
      refine ex_iald (dg dc127 27 rfl) (LOC.st (Nat.le_of_ble_eq_true rfl) rfl) rfl hf (fun _ hf => ?_)
      refine ex_pu (ls' := [vR 0, vI v1, vI (M_2 23 0), vU]) (st' := [vI (M_2 23 0), vI (M_8 9 (v1).toNat), vR 3]) (dg dc127 28 rfl) rfl rfl ?_
      refine ex_cI (vs := [vR 3, vI (M_8 9 (v1).toNat), vI (M_2 23 0)]) (st' := []) (F := (land_opens 3 (M_8 9 (v1).toNat) (M_2 23 0) M_8)) (Or.inr (Or.inl ⟨rfl, (dg dc127 29 rfl)⟩)) rfl rfl (rk1 (LOC.st (Nat.le_of_ble_eq_true rfl) rfl) rfl) rfl (fun _ r9 => land_opens_ok (Z := Z) (d := e9) (by omega) isLand3  r9) hf (fun z_12 M_11 he_10 hf => ?_)
      refine ex_if (t := 76) (dg dc127 30 rfl) rfl hf (fun _ hf => ?_) (fun _ hf => ?_)
      · refine ex_pu (ls' := [vR 0, vI v1, vI (M_2 23 0), vU]) (st' := [vR 0]) (dg dc127 36 rfl) rfl rfl ?_
        refine ex_cV (vs := [vR 0]) (st' := []) (F := (gh_rememberAct  M_11)) (Or.inr (Or.inl ⟨rfl, (dg dc127 37 rfl)⟩)) rfl rfl (rk1 (LOC.st (Nat.le_of_ble_eq_true rfl) rfl) rfl) rfl (fun _ r9 => gh_rememberAct_ok (Z := Z) (d := e9) (by omega)  r9) hf (fun M_14 he_13 hf => ?_)
        refine ex_pu (ls' := [vR 0, vI v1, vI (M_2 23 0), vU]) (st' := [vR 0]) (dg dc127 38 rfl) rfl rfl ?_
        refine ex_getF (dg dc127 39 rfl) rfl (LOC.st (Nat.le_of_ble_eq_true rfl) rfl) rfl ?_
        refine ex_pu (ls' := [vR 0, vI v1, vI (M_2 23 0), vU]) (st' := [vI (M_2 23 0), vR 23]) (dg dc127 40 rfl) rfl rfl ?_
        refine ex_pu (ls' := [vR 0, vI v1, vI (M_2 23 0), vU]) (st' := [vI v1, vI (M_2 23 0), vR 23]) (dg dc127 41 rfl) rfl rfl ?_
        refine ex_cV (vs := [vR 23, vI (M_2 23 0), vI v1]) (st' := []) (F := (jny_letPass 23 (M_2 23 0) v1 M_14)) (Or.inr (Or.inl ⟨rfl, (dg dc127 42 rfl)⟩)) rfl rfl (rk1 (LOC.st (Nat.le_of_ble_eq_true rfl) rfl) rfl) rfl (fun _ r9 => jny_letPass_ok (Z := Z) (d := e9) (by omega) isJny23  r9) hf (fun M_17 he_16 hf => ?_)
        refine ex_pu (ls' := [vR 0, vI v1, vI (M_2 23 0), vU]) (st' := [vR 0]) (dg dc127 43 rfl) rfl rfl ?_
        refine ex_getF (dg dc127 44 rfl) rfl (LOC.st (Nat.le_of_ble_eq_true rfl) rfl) rfl ?_
        refine ex_getI (dg dc127 45 rfl) rfl (LOC.st (Nat.le_of_ble_eq_true rfl) rfl) rfl ?_
        refine ex_pu (ls' := [vR 0, vI v1, vI (M_2 23 0), vU]) (st' := [vI (M_2 23 0), vI (M_17 3 6)]) (dg dc127 46 rfl) rfl rfl ?_
        refine ex_cI (vs := [vI (M_17 3 6), vI (M_2 23 0)]) (st' := []) (F := (gh_bit (M_17 3 6) (M_2 23 0) M_17)) (Or.inl ⟨rfl, (dg dc127 47 rfl)⟩) rfl rfl (Or.inl rfl) rfl (fun _ r9 => gh_bit_ok (Z := Z) (d := e9) (by omega)  r9) hf (fun z_21 M_20 he_19 hf => ?_)
        refine ex_pu (ls' := [vR 0, vI v1, vI (M_2 23 0), vU]) (st' := [vI 1, vI z_21]) (dg dc127 48 rfl) rfl rfl ?_
        refine ex_icmp (t := 112) (dg dc127 49 rfl) rfl hf (fun _ hf => ?_) (fun _ hf => ?_)
        · refine ex_pu (ls' := [vR 0, vI v1, vI (M_2 23 0), vU]) (st' := [vR 0]) (dg dc127 54 rfl) rfl rfl ?_
          refine ex_getF (dg dc127 55 rfl) rfl (LOC.st (Nat.le_of_ble_eq_true rfl) rfl) rfl ?_
          refine ex_getO (dg dc127 56 rfl) rfl (LOC.st (Nat.le_of_ble_eq_true rfl) rfl) rfl ?_
          show EX Z _ 127 _ [vR 0, vI v1, vI (M_2 23 0), vU] [vR 8] _ _
          refine ex_pu (ls' := [vR 0, vI v1, vI (M_2 23 0), vU]) (st' := [vI (M_2 23 0), vR 8]) (dg dc127 57 rfl) rfl rfl ?_
          refine ex_iald (dg dc127 58 rfl) (LOC.st (Nat.le_of_ble_eq_true rfl) rfl) rfl hf (fun _ hf => ?_)
          refine ex_pu (ls' := [vR 0, vI v1, vI (M_2 23 0), vI (M_20 8 ((M_2 23 0)).toNat)]) (st' := []) (dg dc127 59 rfl) rfl rfl ?_
          refine ex_pu (ls' := [vR 0, vI v1, vI (M_2 23 0), vI (M_20 8 ((M_2 23 0)).toNat)]) (st' := [vI (M_20 8 ((M_2 23 0)).toNat)]) (dg dc127 60 rfl) rfl rfl ?_
          refine ex_pu (ls' := [vR 0, vI v1, vI (M_2 23 0), vI (M_20 8 ((M_2 23 0)).toNat)]) (st' := [vI (-1), vI (M_20 8 ((M_2 23 0)).toNat)]) (dg dc127 61 rfl) rfl rfl ?_
          refine ex_icmp (t := 135) (dg dc127 62 rfl) rfl hf (fun _ hf => ?_) (fun _ hf => ?_)
          · refine ex_pu (ls' := [vR 0, vI v1, vI (M_2 23 0), vI (M_20 8 ((M_2 23 0)).toNat)]) (st' := [vI (M_20 8 ((M_2 23 0)).toNat)]) (dg dc127 67 rfl) rfl rfl ?_
            exact ex_ire (dg dc127 68 rfl) rfl hf
          · refine ex_pu (ls' := [vR 0, vI v1, vI (M_2 23 0), vI (M_20 8 ((M_2 23 0)).toNat)]) (st' := [vR 0]) (dg dc127 63 rfl) rfl rfl ?_
            refine ex_getF (dg dc127 64 rfl) rfl (LOC.st (Nat.le_of_ble_eq_true rfl) rfl) rfl ?_
            refine ex_pu (ls' := [vR 0, vI v1, vI (M_2 23 0), vI (M_20 8 ((M_2 23 0)).toNat)]) (st' := [vI (M_20 8 ((M_2 23 0)).toNat), vR 23]) (dg dc127 65 rfl) rfl rfl ?_
            refine ex_cV (vs := [vR 23, vI (M_20 8 ((M_2 23 0)).toNat)]) (st' := []) (F := (jny_receive 23 (M_20 8 ((M_2 23 0)).toNat) M_20)) (Or.inr (Or.inl ⟨rfl, (dg dc127 66 rfl)⟩)) rfl rfl (rk1 (LOC.st (Nat.le_of_ble_eq_true rfl) rfl) rfl) rfl (fun _ r9 => jny_receive_ok (Z := Z) (d := e9) (by omega) isJny23  r9) hf (fun M_23 he_22 hf => ?_)
            refine ex_pu (ls' := [vR 0, vI v1, vI (M_2 23 0), vI (M_20 8 ((M_2 23 0)).toNat)]) (st' := [vI (M_20 8 ((M_2 23 0)).toNat)]) (dg dc127 67 rfl) rfl rfl ?_
            exact ex_ire (dg dc127 68 rfl) rfl hf
        · refine ex_pu (ls' := [vR 0, vI v1, vI (M_2 23 0), vU]) (st' := [vR 0]) (dg dc127 50 rfl) rfl rfl ?_
          refine ex_getF (dg dc127 51 rfl) rfl (LOC.st (Nat.le_of_ble_eq_true rfl) rfl) rfl ?_
          refine ex_pu (ls' := [vR 0, vI v1, vI (M_2 23 0), vU]) (st' := [vI v1, vR 23]) (dg dc127 52 rfl) rfl rfl ?_
          refine ex_cV (vs := [vR 23, vI v1]) (st' := []) (F := (jny_lose 23 v1 M_20)) (Or.inr (Or.inl ⟨rfl, (dg dc127 53 rfl)⟩)) rfl rfl (rk1 (LOC.st (Nat.le_of_ble_eq_true rfl) rfl) rfl) rfl (fun _ r9 => jny_lose_ok (Z := Z) (d := e9) (by omega) isJny23  r9) hf (fun M_26 he_25 hf => ?_)
          refine ex_pu (ls' := [vR 0, vI v1, vI (M_2 23 0), vU]) (st' := [vR 0]) (dg dc127 54 rfl) rfl rfl ?_
          refine ex_getF (dg dc127 55 rfl) rfl (LOC.st (Nat.le_of_ble_eq_true rfl) rfl) rfl ?_
          refine ex_getO (dg dc127 56 rfl) rfl (LOC.st (Nat.le_of_ble_eq_true rfl) rfl) rfl ?_
          show EX Z _ 127 _ [vR 0, vI v1, vI (M_2 23 0), vU] [vR 8] _ _
          refine ex_pu (ls' := [vR 0, vI v1, vI (M_2 23 0), vU]) (st' := [vI (M_2 23 0), vR 8]) (dg dc127 57 rfl) rfl rfl ?_
          refine ex_iald (dg dc127 58 rfl) (LOC.st (Nat.le_of_ble_eq_true rfl) rfl) rfl hf (fun _ hf => ?_)
          refine ex_pu (ls' := [vR 0, vI v1, vI (M_2 23 0), vI (M_26 8 ((M_2 23 0)).toNat)]) (st' := []) (dg dc127 59 rfl) rfl rfl ?_
          refine ex_pu (ls' := [vR 0, vI v1, vI (M_2 23 0), vI (M_26 8 ((M_2 23 0)).toNat)]) (st' := [vI (M_26 8 ((M_2 23 0)).toNat)]) (dg dc127 60 rfl) rfl rfl ?_
          refine ex_pu (ls' := [vR 0, vI v1, vI (M_2 23 0), vI (M_26 8 ((M_2 23 0)).toNat)]) (st' := [vI (-1), vI (M_26 8 ((M_2 23 0)).toNat)]) (dg dc127 61 rfl) rfl rfl ?_
          refine ex_icmp (t := 135) (dg dc127 62 rfl) rfl hf (fun _ hf => ?_) (fun _ hf => ?_)
          · refine ex_pu (ls' := [vR 0, vI v1, vI (M_2 23 0), vI (M_26 8 ((M_2 23 0)).toNat)]) (st' := [vI (M_26 8 ((M_2 23 0)).toNat)]) (dg dc127 67 rfl) rfl rfl ?_
            exact ex_ire (dg dc127 68 rfl) rfl hf
          · refine ex_pu (ls' := [vR 0, vI v1, vI (M_2 23 0), vI (M_26 8 ((M_2 23 0)).toNat)]) (st' := [vR 0]) (dg dc127 63 rfl) rfl rfl ?_
            refine ex_getF (dg dc127 64 rfl) rfl (LOC.st (Nat.le_of_ble_eq_true rfl) rfl) rfl ?_
            refine ex_pu (ls' := [vR 0, vI v1, vI (M_2 23 0), vI (M_26 8 ((M_2 23 0)).toNat)]) (st' := [vI (M_26 8 ((M_2 23 0)).toNat), vR 23]) (dg dc127 65 rfl) rfl rfl ?_
            refine ex_cV (vs := [vR 23, vI (M_26 8 ((M_2 23 0)).toNat)]) (st' := []) (F := (jny_receive 23 (M_26 8 ((M_2 23 0)).toNat) M_26)) (Or.inr (Or.inl ⟨rfl, (dg dc127 66 rfl)⟩)) rfl rfl (rk1 (LOC.st (Nat.le_of_ble_eq_true rfl) rfl) rfl) rfl (fun _ r9 => jny_receive_ok (Z := Z) (d := e9) (by omega) isJny23  r9) hf (fun M_29 he_28 hf => ?_)
            refine ex_pu (ls' := [vR 0, vI v1, vI (M_2 23 0), vI (M_26 8 ((M_2 23 0)).toNat)]) (st' := [vI (M_26 8 ((M_2 23 0)).toNat)]) (dg dc127 67 rfl) rfl rfl ?_
            exact ex_ire (dg dc127 68 rfl) rfl hf
      · exact ex_thr (ci := 14) (is := 352) (ic := 282) (ln := 10) (dg dc127 31 rfl) rfl (exN_ofW rfl (dg dc127 32 rfl) (dg dc127 33 rfl) (dg dc127 34 rfl) rfl rfl rfl) (dg dc127 35 rfl) rfl ⟨by decide, by decide⟩ hf
-- GlassHill.take
def il128 : List (Nat × Instr × Nat) := [(0, .aload_n 0, 1), (1, .iload_n 1, 1), (2, .invokevirtual 212, 3), (5, .aload_n 0, 1), (6, .getfield 33, 3), (9, .aload_n 0, 1), (10, .getfield 33, 3), (13, .getfield 260, 3), (16, .invokevirtual 198, 3), (19, .iload_n 1, 1), (20, .invokestatic 187, 3), (23, .ifCond .eq 16, 3), (26, .aload_n 0, 1), (27, .getfield 33, 3), (30, .getfield 269, 3), (33, .invokestatic 364, 3), (36, .ifCond .ne 14, 3), (39, .new 278, 3), (42, .dup, 1), (43, .ldc_w 367, 3), (46, .invokespecial 282, 3), (49, .athrow, 1), (50, .aload_n 0, 1), (51, .invokevirtual 339, 3), (54, .aload_n 0, 1), (55, .getfield 33, 3), (58, .dup, 1), (59, .getfield 269, 3), (62, .iconst 1, 1), (63, .iload_n 1, 1), (64, .ishl, 1), (65, .ior, 1), (66, .putfield 269, 3), (69, .aload_n 0, 1), (70, .getfield 33, 3), (73, .getfield 269, 3), (76, .invokestatic 328, 3), (79, .ireturn, 1)]
theorem dc128 : dcs (mC 128) il128 := dc_of (by decide +kernel)
def gh_take (v1 : Int) (M : MM) : OR :=
  (bV (gh_checkThing v1 M) fun M_2 => (bI (jny_lying 23 (M_2 23 0) M_2) fun z_6 M_5 => (bI (gh_bit z_6 v1 M_5) fun z_9 M_8 => (bif cmpB .eq z_9 0 then thx 14 M_8 else (bI (gh_hasRoom (M_8 23 3) M_8) fun z_12 M_11 => (bif cmpB .ne z_12 0 then (bV (gh_rememberAct  M_11) fun M_14 => (sM (mU M_14 23 3 (iOr (M_14 23 3) (iShl 1 v1))) fun M_16 => (bI (jdk_bitCount (M_16 23 3) M_16) fun z_20 M_19 => some (rI z_20, M_19)))) else thx 14 M_11))))))
set_option maxRecDepth 4000 in
theorem gh_take_ok {Z : Nat × (Nat → Int)} {d : Nat} (hd : 4 ≤ d) {M : MM}  {v1 : Int} {res : AR × MM} (hf : gh_take v1 M = some res) : EX Z d 128 0 (ent 128 [vR 0, vI v1]) [] M res := by
  obtain ⟨e9, rfl⟩ : ∃ e9, d = e9 + 1 := ⟨d - 1, by omega⟩
  unfold gh_take at hf
  show EX Z _ 128 0 [vR 0, vI v1] [] M res
  refine ex_pu (ls' := [vR 0, vI v1]) (st' := [vR 0]) (dg dc128 0 rfl) rfl rfl ?_
  refine ex_pu (ls' := [vR 0, vI v1]) (st' := [vI v1, vR 0]) (dg dc128 1 rfl) rfl rfl ?_
  refine ex_cV (vs := [vR 0, vI v1]) (st' := []) (F := (gh_checkThing v1 M)) (Or.inr (Or.inl ⟨rfl, (dg dc128 2 rfl)⟩)) rfl rfl (rk1 (LOC.st (Nat.le_of_ble_eq_true rfl) rfl) rfl) rfl (fun _ r9 => gh_checkThing_ok (Z := Z) (d := e9) (by omega)  r9) hf (fun M_2 he_1 hf => ?_)
  refine ex_pu (ls' := [vR 0, vI v1]) (st' := [vR 0]) (dg dc128 3 rfl) rfl rfl ?_
  refine ex_getF (dg dc128 4 rfl) rfl (LOC.st (Nat.le_of_ble_eq_true rfl) rfl) rfl ?_
  refine ex_pu (ls' := [vR 0, vI v1]) (st' := [vR 0, vR 23]) (dg dc128 5 rfl) rfl rfl ?_
  refine ex_getF (dg dc128 6 rfl) rfl (LOC.st (Nat.le_of_ble_eq_true rfl) rfl) rfl ?_
  refine ex_getI (dg dc128 7 rfl) rfl (LOC.st (Nat.le_of_ble_eq_true rfl) rfl) rfl ?_
  refine ex_cI (vs := [vR 23, vI (M_2 23 0)]) (st' := []) (F := (jny_lying 23 (M_2 23 0) M_2)) (Or.inr (Or.inl ⟨rfl, (dg dc128 8 rfl)⟩)) rfl rfl (rk1 (LOC.st (Nat.le_of_ble_eq_true rfl) rfl) rfl) rfl (fun _ r9 => jny_lying_ok (Z := Z) (d := e9) (by omega) isJny23  r9) hf (fun z_6 M_5 he_4 hf => ?_)
  refine ex_pu (ls' := [vR 0, vI v1]) (st' := [vI v1, vI z_6]) (dg dc128 9 rfl) rfl rfl ?_
  refine ex_cI (vs := [vI z_6, vI v1]) (st' := []) (F := (gh_bit z_6 v1 M_5)) (Or.inl ⟨rfl, (dg dc128 10 rfl)⟩) rfl rfl (Or.inl rfl) rfl (fun _ r9 => gh_bit_ok (Z := Z) (d := e9) (by omega)  r9) hf (fun z_9 M_8 he_7 hf => ?_)
  refine ex_if (t := 39) (dg dc128 11 rfl) rfl hf (fun _ hf => ?_) (fun _ hf => ?_)
  · exact ex_thr (ci := 14) (is := 367) (ic := 282) (ln := 10) (dg dc128 17 rfl) rfl (exN_ofW rfl (dg dc128 18 rfl) (dg dc128 19 rfl) (dg dc128 20 rfl) rfl rfl rfl) (dg dc128 21 rfl) rfl ⟨by decide, by decide⟩ hf
  · refine ex_pu (ls' := [vR 0, vI v1]) (st' := [vR 0]) (dg dc128 12 rfl) rfl rfl ?_
    refine ex_getF (dg dc128 13 rfl) rfl (LOC.st (Nat.le_of_ble_eq_true rfl) rfl) rfl ?_
    refine ex_getI (dg dc128 14 rfl) rfl (LOC.st (Nat.le_of_ble_eq_true rfl) rfl) rfl ?_
    refine ex_cI (vs := [vI (M_8 23 3)]) (st' := []) (F := (gh_hasRoom (M_8 23 3) M_8)) (Or.inl ⟨rfl, (dg dc128 15 rfl)⟩) rfl rfl (Or.inl rfl) rfl (fun _ r9 => gh_hasRoom_ok (Z := Z) (d := e9) (by omega)  r9) hf (fun z_12 M_11 he_10 hf => ?_)
    refine ex_if (t := 50) (dg dc128 16 rfl) rfl hf (fun _ hf => ?_) (fun _ hf => ?_)
    · refine ex_pu (ls' := [vR 0, vI v1]) (st' := [vR 0]) (dg dc128 22 rfl) rfl rfl ?_
      refine ex_cV (vs := [vR 0]) (st' := []) (F := (gh_rememberAct  M_11)) (Or.inr (Or.inl ⟨rfl, (dg dc128 23 rfl)⟩)) rfl rfl (rk1 (LOC.st (Nat.le_of_ble_eq_true rfl) rfl) rfl) rfl (fun _ r9 => gh_rememberAct_ok (Z := Z) (d := e9) (by omega)  r9) hf (fun M_14 he_13 hf => ?_)
      refine ex_pu (ls' := [vR 0, vI v1]) (st' := [vR 0]) (dg dc128 24 rfl) rfl rfl ?_
      refine ex_getF (dg dc128 25 rfl) rfl (LOC.st (Nat.le_of_ble_eq_true rfl) rfl) rfl ?_
      refine ex_pu (ls' := [vR 0, vI v1]) (st' := [vR 23, vR 23]) (dg dc128 26 rfl) rfl rfl ?_
      refine ex_getI (dg dc128 27 rfl) rfl (LOC.st (Nat.le_of_ble_eq_true rfl) rfl) rfl ?_
      refine ex_pu (ls' := [vR 0, vI v1]) (st' := [vI 1, vI (M_14 23 3), vR 23]) (dg dc128 28 rfl) rfl rfl ?_
      refine ex_pu (ls' := [vR 0, vI v1]) (st' := [vI v1, vI 1, vI (M_14 23 3), vR 23]) (dg dc128 29 rfl) rfl rfl ?_
      refine ex_pu (ls' := [vR 0, vI v1]) (st' := [vI (iShl 1 v1), vI (M_14 23 3), vR 23]) (dg dc128 30 rfl) rfl rfl ?_
      refine ex_pu (ls' := [vR 0, vI v1]) (st' := [vI (iOr (M_14 23 3) (iShl 1 v1)), vR 23]) (dg dc128 31 rfl) rfl rfl ?_
      refine ex_putI (dg dc128 32 rfl) rfl (LOC.st (Nat.le_of_ble_eq_true rfl) rfl) rfl rfl rfl ?_
      refine ex_gen hf (fun M_16 hM_17 hf => ?_)
      refine ex_pu (ls' := [vR 0, vI v1]) (st' := [vR 0]) (dg dc128 33 rfl) rfl rfl ?_
      refine ex_getF (dg dc128 34 rfl) rfl (LOC.st (Nat.le_of_ble_eq_true rfl) rfl) rfl ?_
      refine ex_getI (dg dc128 35 rfl) rfl (LOC.st (Nat.le_of_ble_eq_true rfl) rfl) rfl ?_
      refine ex_cI (vs := [vI (M_16 23 3)]) (st' := []) (F := (jdk_bitCount (M_16 23 3) M_16)) (Or.inl ⟨rfl, (dg dc128 36 rfl)⟩) rfl rfl (Or.inl rfl) rfl (fun _ r9 => jdk_bitCount_ok (Z := Z) (d := e9) (by omega)  r9) hf (fun z_20 M_19 he_18 hf => ?_)
      exact ex_ire (dg dc128 37 rfl) rfl hf
    · exact ex_thr (ci := 14) (is := 367) (ic := 282) (ln := 10) (dg dc128 17 rfl) rfl (exN_ofW rfl (dg dc128 18 rfl) (dg dc128 19 rfl) (dg dc128 20 rfl) rfl rfl rfl) (dg dc128 21 rfl) rfl ⟨by decide, by decide⟩ hf
-- GlassHill.stands
def il139 : List (Nat × Instr × Nat) := [(0, .aload_n 0, 1), (1, .iload_n 1, 1), (2, .invokevirtual 212, 3), (5, .aload_n 0, 1), (6, .getfield 19, 3), (9, .invokevirtual 412, 3), (12, .aload_n 0, 1), (13, .getfield 33, 3), (16, .getfield 333, 3), (19, .iconst (-1), 1), (20, .ixor, 1), (21, .iand, 1), (22, .iconst 1, 1), (23, .iload_n 1, 1), (24, .ishl, 1), (25, .iconst (-1), 1), (26, .ixor, 1), (27, .iand, 1), (28, .istore_n 3, 1), (29, .iconst 0, 1), (30, .istore 4, 2), (32, .iload 4, 2), (34, .bipush 17, 2), (36, .if_icmp .ge 51, 3), (39, .aload_n 0, 1), (40, .iload 4, 2), (42, .invokevirtual 415, 3), (45, .ifCond .eq 36, 3), (48, .aload_n 0, 1), (49, .getfield 19, 3), (52, .aload_n 0, 1), (53, .getfield 19, 3), (56, .getfield 215, 3), (59, .iload_n 1, 1), (60, .iaload, 1), (61, .iload 4, 2), (63, .invokevirtual 297, 3), (66, .ifCond .eq 15, 3), (69, .iload_n 3, 1), (70, .aload_n 0, 1), (71, .getfield 19, 3), (74, .iload 4, 2), (76, .invokevirtual 371, 3), (79, .iand, 1), (80, .istore_n 3, 1), (81, .iinc 4 1, 3), (84, .goto (-52), 3), (87, .iload_n 2, 1), (88, .ifCond .eq 14, 3), (91, .aload_n 0, 1), (92, .getfield 19, 3), (95, .iload_n 3, 1), (96, .invokevirtual 418, 3), (99, .goto 4, 3), (102, .iload_n 3, 1), (103, .ireturn, 1)]
theorem dc139 : dcs (mC 139) il139 := dc_of (by decide +kernel)
def gh_stands_L32  (v1 v2 : Int) (K1 : Int → MM → OR) : Nat → Int → Int → MM → OR
  | 0, _, _, _ => none
  | n + 1, v3, v4, M => (bif cmpB .ge v4 17 then (K1 v3 M) else (bI (gh_isShut v4 M) fun z_9 M_8 => (bif cmpB .eq z_9 0 then (gh_stands_L32 v1 v2 K1 n v3 (v4 + 1) M_8) else (bif inB v1 10 then (bI (land_opens 3 (M_8 9 (v1).toNat) v4 M_8) fun z_12 M_11 => (bif cmpB .eq z_12 0 then (gh_stands_L32 v1 v2 K1 n v3 (v4 + 1) M_11) else (bI (land_openers 3 v4 M_11) fun z_15 M_14 => (gh_stands_L32 v1 v2 K1 n (iAnd v3 z_15) (v4 + 1) M_14)))) else none))))
set_option maxRecDepth 4000 in
theorem gh_stands_L32_ok {Z : Nat × (Nat → Int)} {d : Nat} (hd : 3 ≤ d)  {v1 v2 : Int} {K1 : Int → MM → OR} {res : AR × MM} (k1 : ∀ (x3 : Int) (M : MM) (j1 j4 : AV), K1 x3 M = some res → EX Z d 139 87 [vR 0, j1, vI v2, vI x3, j4] [] M res) : ∀ (n : Nat) (v3 v4 : Int) (M : MM), gh_stands_L32 v1 v2 K1 n v3 v4 M = some res → EX Z d 139 32 [vR 0, vI v1, vI v2, vI v3, vI v4] [] M res := by
  obtain ⟨e9, rfl⟩ : ∃ e9, d = e9 + 1 := ⟨d - 1, by omega⟩
  intro n
  induction n with
  | zero =>
    intro v3 v4 M hf
    unfold gh_stands_L32 at hf
    cases hf
  | succ n ih =>
    intro v3 v4 M hf
    unfold gh_stands_L32 at hf
    refine ex_pu (ls' := [vR 0, vI v1, vI v2, vI v3, vI v4]) (st' := [vI v4]) (dg dc139 21 rfl) rfl rfl ?_
    refine ex_pu (ls' := [vR 0, vI v1, vI v2, vI v3, vI v4]) (st' := [vI 17, vI v4]) (dg dc139 22 rfl) rfl rfl ?_
    refine ex_icmp (t := 87) (dg dc139 23 rfl) rfl hf (fun _ hf => ?_) (fun _ hf => ?_)
    · exact k1 v3 M _ _ hf
    · refine ex_pu (ls' := [vR 0, vI v1, vI v2, vI v3, vI v4]) (st' := [vR 0]) (dg dc139 24 rfl) rfl rfl ?_
      refine ex_pu (ls' := [vR 0, vI v1, vI v2, vI v3, vI v4]) (st' := [vI v4, vR 0]) (dg dc139 25 rfl) rfl rfl ?_
      refine ex_cI (vs := [vR 0, vI v4]) (st' := []) (F := (gh_isShut v4 M)) (Or.inr (Or.inl ⟨rfl, (dg dc139 26 rfl)⟩)) rfl rfl (rk1 (LOC.st (Nat.le_of_ble_eq_true rfl) rfl) rfl) rfl (fun _ r9 => gh_isShut_ok (Z := Z) (d := e9) (by omega)  r9) hf (fun z_9 M_8 he_7 hf => ?_)
      refine ex_if (t := 81) (dg dc139 27 rfl) rfl hf (fun _ hf => ?_) (fun _ hf => ?_)
      · refine ex_pu (ls' := [vR 0, vI v1, vI v2, vI v3, vI (v4 + 1)]) (st' := []) (dg dc139 45 rfl) rfl rfl ?_
        refine ex_goto (t := 32) (dg dc139 46 rfl) rfl rfl ?_
        exact ih v3 (v4 + 1) M_8 hf
      · refine ex_pu (ls' := [vR 0, vI v1, vI v2, vI v3, vI v4]) (st' := [vR 0]) (dg dc139 28 rfl) rfl rfl ?_
        refine ex_getF (dg dc139 29 rfl) rfl (LOC.st (Nat.le_of_ble_eq_true rfl) rfl) rfl ?_
        refine ex_pu (ls' := [vR 0, vI v1, vI v2, vI v3, vI v4]) (st' := [vR 0, vR 3]) (dg dc139 30 rfl) rfl rfl ?_
        refine ex_getF (dg dc139 31 rfl) rfl (LOC.st (Nat.le_of_ble_eq_true rfl) rfl) rfl ?_
        refine ex_getO (dg dc139 32 rfl) rfl (LOC.st (Nat.le_of_ble_eq_true rfl) rfl) rfl ?_
        show EX Z _ 139 _ [vR 0, vI v1, vI v2, vI v3, vI v4] [vR 9, vR 3] _ _
        refine ex_pu (ls' := [vR 0, vI v1, vI v2, vI v3, vI v4]) (st' := [vI v1, vR 9, vR 3]) (dg dc139 33 rfl) rfl rfl ?_
        refine ex_iald (dg dc139 34 rfl) (LOC.st (Nat.le_of_ble_eq_true rfl) rfl) rfl hf (fun _ hf => ?_)
        refine ex_pu (ls' := [vR 0, vI v1, vI v2, vI v3, vI v4]) (st' := [vI v4, vI (M_8 9 (v1).toNat), vR 3]) (dg dc139 35 rfl) rfl rfl ?_
        refine ex_cI (vs := [vR 3, vI (M_8 9 (v1).toNat), vI v4]) (st' := []) (F := (land_opens 3 (M_8 9 (v1).toNat) v4 M_8)) (Or.inr (Or.inl ⟨rfl, (dg dc139 36 rfl)⟩)) rfl rfl (rk1 (LOC.st (Nat.le_of_ble_eq_true rfl) rfl) rfl) rfl (fun _ r9 => land_opens_ok (Z := Z) (d := e9) (by omega) isLand3  r9) hf (fun z_12 M_11 he_10 hf => ?_)
        refine ex_if (t := 81) (dg dc139 37 rfl) rfl hf (fun _ hf => ?_) (fun _ hf => ?_)
        · refine ex_pu (ls' := [vR 0, vI v1, vI v2, vI v3, vI (v4 + 1)]) (st' := []) (dg dc139 45 rfl) rfl rfl ?_
          refine ex_goto (t := 32) (dg dc139 46 rfl) rfl rfl ?_
          exact ih v3 (v4 + 1) M_11 hf
        · refine ex_pu (ls' := [vR 0, vI v1, vI v2, vI v3, vI v4]) (st' := [vI v3]) (dg dc139 38 rfl) rfl rfl ?_
          refine ex_pu (ls' := [vR 0, vI v1, vI v2, vI v3, vI v4]) (st' := [vR 0, vI v3]) (dg dc139 39 rfl) rfl rfl ?_
          refine ex_getF (dg dc139 40 rfl) rfl (LOC.st (Nat.le_of_ble_eq_true rfl) rfl) rfl ?_
          refine ex_pu (ls' := [vR 0, vI v1, vI v2, vI v3, vI v4]) (st' := [vI v4, vR 3, vI v3]) (dg dc139 41 rfl) rfl rfl ?_
          refine ex_cI (vs := [vR 3, vI v4]) (st' := [vI v3]) (F := (land_openers 3 v4 M_11)) (Or.inr (Or.inl ⟨rfl, (dg dc139 42 rfl)⟩)) rfl rfl (rk1 (LOC.st (Nat.le_of_ble_eq_true rfl) rfl) rfl) rfl (fun _ r9 => land_openers_ok (Z := Z) (d := e9) (by omega) isLand3  r9) hf (fun z_15 M_14 he_13 hf => ?_)
          refine ex_pu (ls' := [vR 0, vI v1, vI v2, vI v3, vI v4]) (st' := [vI (iAnd v3 z_15)]) (dg dc139 43 rfl) rfl rfl ?_
          refine ex_pu (ls' := [vR 0, vI v1, vI v2, vI (iAnd v3 z_15), vI v4]) (st' := []) (dg dc139 44 rfl) rfl rfl ?_
          refine ex_pu (ls' := [vR 0, vI v1, vI v2, vI (iAnd v3 z_15), vI (v4 + 1)]) (st' := []) (dg dc139 45 rfl) rfl rfl ?_
          refine ex_goto (t := 32) (dg dc139 46 rfl) rfl rfl ?_
          exact ih (iAnd v3 z_15) (v4 + 1) M_14 hf
def gh_stands (v1 : Int) (v2 : Int) (M : MM) : OR :=
  (bV (gh_checkThing v1 M) fun M_2 => (bI (land_allThings 3 M_2) fun z_6 M_5 => (gh_stands_L32 v1 v2 (fun v3_16 M_17 => (bif cmpB .eq v2 0 then some (rI v3_16, M_17) else (bI (land_cheapest 3 v3_16 M_17) fun z_22 M_21 => some (rI z_22, M_21)))) FU (iAnd (iAnd z_6 (iXor (M_5 23 4) (-1))) (iXor (iShl 1 v1) (-1))) 0 M_5)))
set_option maxRecDepth 4000 in
theorem gh_stands_ok {Z : Nat × (Nat → Int)} {d : Nat} (hd : 3 ≤ d) {M : MM}  {v1 v2 : Int} {res : AR × MM} (hf : gh_stands v1 v2 M = some res) : EX Z d 139 0 (ent 139 [vR 0, vI v1, vI v2]) [] M res := by
  obtain ⟨e9, rfl⟩ : ∃ e9, d = e9 + 1 := ⟨d - 1, by omega⟩
  unfold gh_stands at hf
  show EX Z _ 139 0 [vR 0, vI v1, vI v2, vU, vU] [] M res
  refine ex_pu (ls' := [vR 0, vI v1, vI v2, vU, vU]) (st' := [vR 0]) (dg dc139 0 rfl) rfl rfl ?_
  refine ex_pu (ls' := [vR 0, vI v1, vI v2, vU, vU]) (st' := [vI v1, vR 0]) (dg dc139 1 rfl) rfl rfl ?_
  refine ex_cV (vs := [vR 0, vI v1]) (st' := []) (F := (gh_checkThing v1 M)) (Or.inr (Or.inl ⟨rfl, (dg dc139 2 rfl)⟩)) rfl rfl (rk1 (LOC.st (Nat.le_of_ble_eq_true rfl) rfl) rfl) rfl (fun _ r9 => gh_checkThing_ok (Z := Z) (d := e9) (by omega)  r9) hf (fun M_2 he_1 hf => ?_)
  refine ex_pu (ls' := [vR 0, vI v1, vI v2, vU, vU]) (st' := [vR 0]) (dg dc139 3 rfl) rfl rfl ?_
  refine ex_getF (dg dc139 4 rfl) rfl (LOC.st (Nat.le_of_ble_eq_true rfl) rfl) rfl ?_
  refine ex_cI (vs := [vR 3]) (st' := []) (F := (land_allThings 3 M_2)) (Or.inr (Or.inl ⟨rfl, (dg dc139 5 rfl)⟩)) rfl rfl (rk1 (LOC.st (Nat.le_of_ble_eq_true rfl) rfl) rfl) rfl (fun _ r9 => land_allThings_ok (Z := Z) (d := e9) (by omega) isLand3  r9) hf (fun z_6 M_5 he_4 hf => ?_)
  refine ex_pu (ls' := [vR 0, vI v1, vI v2, vU, vU]) (st' := [vR 0, vI z_6]) (dg dc139 6 rfl) rfl rfl ?_
  refine ex_getF (dg dc139 7 rfl) rfl (LOC.st (Nat.le_of_ble_eq_true rfl) rfl) rfl ?_
  refine ex_getI (dg dc139 8 rfl) rfl (LOC.st (Nat.le_of_ble_eq_true rfl) rfl) rfl ?_
  refine ex_pu (ls' := [vR 0, vI v1, vI v2, vU, vU]) (st' := [vI (-1), vI (M_5 23 4), vI z_6]) (dg dc139 9 rfl) rfl rfl ?_
  refine ex_pu (ls' := [vR 0, vI v1, vI v2, vU, vU]) (st' := [vI (iXor (M_5 23 4) (-1)), vI z_6]) (dg dc139 10 rfl) rfl rfl ?_
  refine ex_pu (ls' := [vR 0, vI v1, vI v2, vU, vU]) (st' := [vI (iAnd z_6 (iXor (M_5 23 4) (-1)))]) (dg dc139 11 rfl) rfl rfl ?_
  refine ex_pu (ls' := [vR 0, vI v1, vI v2, vU, vU]) (st' := [vI 1, vI (iAnd z_6 (iXor (M_5 23 4) (-1)))]) (dg dc139 12 rfl) rfl rfl ?_
  refine ex_pu (ls' := [vR 0, vI v1, vI v2, vU, vU]) (st' := [vI v1, vI 1, vI (iAnd z_6 (iXor (M_5 23 4) (-1)))]) (dg dc139 13 rfl) rfl rfl ?_
  refine ex_pu (ls' := [vR 0, vI v1, vI v2, vU, vU]) (st' := [vI (iShl 1 v1), vI (iAnd z_6 (iXor (M_5 23 4) (-1)))]) (dg dc139 14 rfl) rfl rfl ?_
  refine ex_pu (ls' := [vR 0, vI v1, vI v2, vU, vU]) (st' := [vI (-1), vI (iShl 1 v1), vI (iAnd z_6 (iXor (M_5 23 4) (-1)))]) (dg dc139 15 rfl) rfl rfl ?_
  refine ex_pu (ls' := [vR 0, vI v1, vI v2, vU, vU]) (st' := [vI (iXor (iShl 1 v1) (-1)), vI (iAnd z_6 (iXor (M_5 23 4) (-1)))]) (dg dc139 16 rfl) rfl rfl ?_
  refine ex_pu (ls' := [vR 0, vI v1, vI v2, vU, vU]) (st' := [vI (iAnd (iAnd z_6 (iXor (M_5 23 4) (-1))) (iXor (iShl 1 v1) (-1)))]) (dg dc139 17 rfl) rfl rfl ?_
  refine ex_pu (ls' := [vR 0, vI v1, vI v2, vI (iAnd (iAnd z_6 (iXor (M_5 23 4) (-1))) (iXor (iShl 1 v1) (-1))), vU]) (st' := []) (dg dc139 18 rfl) rfl rfl ?_
  refine ex_pu (ls' := [vR 0, vI v1, vI v2, vI (iAnd (iAnd z_6 (iXor (M_5 23 4) (-1))) (iXor (iShl 1 v1) (-1))), vU]) (st' := [vI 0]) (dg dc139 19 rfl) rfl rfl ?_
  refine ex_pu (ls' := [vR 0, vI v1, vI v2, vI (iAnd (iAnd z_6 (iXor (M_5 23 4) (-1))) (iXor (iShl 1 v1) (-1))), vI 0]) (st' := []) (dg dc139 20 rfl) rfl rfl ?_
  refine gh_stands_L32_ok hd  ?_ FU (iAnd (iAnd z_6 (iXor (M_5 23 4) (-1))) (iXor (iShl 1 v1) (-1))) 0 M_5 hf
  · intro v3_16 M_17 j1_18 j4_19 hf
    refine ex_pu (ls' := [vR 0, j1_18, vI v2, vI v3_16, j4_19]) (st' := [vI v2]) (dg dc139 47 rfl) rfl rfl ?_
    refine ex_if (t := 102) (dg dc139 48 rfl) rfl hf (fun _ hf => ?_) (fun _ hf => ?_)
    · refine ex_pu (ls' := [vR 0, j1_18, vI v2, vI v3_16, j4_19]) (st' := [vI v3_16]) (dg dc139 54 rfl) rfl rfl ?_
      exact ex_ire (dg dc139 55 rfl) rfl hf
    · refine ex_pu (ls' := [vR 0, j1_18, vI v2, vI v3_16, j4_19]) (st' := [vR 0]) (dg dc139 49 rfl) rfl rfl ?_
      refine ex_getF (dg dc139 50 rfl) rfl (LOC.st (Nat.le_of_ble_eq_true rfl) rfl) rfl ?_
      refine ex_pu (ls' := [vR 0, j1_18, vI v2, vI v3_16, j4_19]) (st' := [vI v3_16, vR 3]) (dg dc139 51 rfl) rfl rfl ?_
      refine ex_cI (vs := [vR 3, vI v3_16]) (st' := []) (F := (land_cheapest 3 v3_16 M_17)) (Or.inr (Or.inl ⟨rfl, (dg dc139 52 rfl)⟩)) rfl rfl (rk1 (LOC.st (Nat.le_of_ble_eq_true rfl) rfl) rfl) rfl (fun _ r9 => land_cheapest_ok (Z := Z) (d := e9) (by omega) isLand3  r9) hf (fun z_22 M_21 he_20 hf => ?_)
      refine ex_goto (t := 103) (dg dc139 53 rfl) rfl rfl ?_
      exact ex_ire (dg dc139 55 rfl) rfl hf
-- GlassHill.needed
def il140 : List (Nat × Instr × Nat) := [(0, .iconst 0, 1), (1, .istore_n 1, 1), (2, .iconst 0, 1), (3, .istore_n 2, 1), (4, .iload_n 2, 1), (5, .bipush 17, 2), (7, .if_icmp .ge 44, 3), (10, .aload_n 0, 1), (11, .iload_n 2, 1), (12, .invokevirtual 415, 3), (15, .ifCond .eq 30, 3), (18, .aload_n 0, 1), (19, .getfield 19, 3), (22, .iload_n 2, 1), (23, .invokevirtual 371, 3), (26, .aload_n 0, 1), (27, .getfield 33, 3), (30, .getfield 333, 3), (33, .iconst (-1), 1), (34, .ixor, 1), (35, .iand, 1), (36, .ifCond .ne 9, 3), (39, .iload_n 1, 1), (40, .iconst 1, 1), (41, .iload_n 2, 1), (42, .ishl, 1), (43, .ior, 1), (44, .istore_n 1, 1), (45, .iinc 2 1, 3), (48, .goto (-44), 3), (51, .iload_n 1, 1), (52, .ireturn, 1)]
theorem dc140 : dcs (mC 140) il140 := dc_of (by decide +kernel)
def gh_needed_L4  (K1 : Int → MM → OR) : Nat → Int → Int → MM → OR
  | 0, _, _, _ => none
  | n + 1, v1, v2, M => (bif cmpB .ge v2 17 then (K1 v1 M) else (bI (gh_isShut v2 M) fun z_3 M_2 => (bif cmpB .eq z_3 0 then (gh_needed_L4  K1 n v1 (v2 + 1) M_2) else (bI (land_openers 3 v2 M_2) fun z_6 M_5 => (bif cmpB .ne (iAnd z_6 (iXor (M_5 23 4) (-1))) 0 then (gh_needed_L4  K1 n v1 (v2 + 1) M_5) else (gh_needed_L4  K1 n (iOr v1 (iShl 1 v2)) (v2 + 1) M_5))))))
set_option maxRecDepth 4000 in
theorem gh_needed_L4_ok {Z : Nat × (Nat → Int)} {d : Nat} (hd : 3 ≤ d)  {K1 : Int → MM → OR} {res : AR × MM} (k1 : ∀ (x1 : Int) (M : MM) (j0 j2 : AV), K1 x1 M = some res → EX Z d 140 51 [j0, vI x1, j2] [] M res) : ∀ (n : Nat) (v1 v2 : Int) (M : MM), gh_needed_L4  K1 n v1 v2 M = some res → EX Z d 140 4 [vR 0, vI v1, vI v2] [] M res := by
  obtain ⟨e9, rfl⟩ : ∃ e9, d = e9 + 1 := ⟨d - 1, by omega⟩
  intro n
  induction n with
  | zero =>
    intro v1 v2 M hf
    unfold gh_needed_L4 at hf
    cases hf
  | succ n ih =>
    intro v1 v2 M hf
    unfold gh_needed_L4 at hf
    refine ex_pu (ls' := [vR 0, vI v1, vI v2]) (st' := [vI v2]) (dg dc140 4 rfl) rfl rfl ?_
    refine ex_pu (ls' := [vR 0, vI v1, vI v2]) (st' := [vI 17, vI v2]) (dg dc140 5 rfl) rfl rfl ?_
    refine ex_icmp (t := 51) (dg dc140 6 rfl) rfl hf (fun _ hf => ?_) (fun _ hf => ?_)
    · exact k1 v1 M _ _ hf
    · refine ex_pu (ls' := [vR 0, vI v1, vI v2]) (st' := [vR 0]) (dg dc140 7 rfl) rfl rfl ?_
      refine ex_pu (ls' := [vR 0, vI v1, vI v2]) (st' := [vI v2, vR 0]) (dg dc140 8 rfl) rfl rfl ?_
      refine ex_cI (vs := [vR 0, vI v2]) (st' := []) (F := (gh_isShut v2 M)) (Or.inr (Or.inl ⟨rfl, (dg dc140 9 rfl)⟩)) rfl rfl (rk1 (LOC.st (Nat.le_of_ble_eq_true rfl) rfl) rfl) rfl (fun _ r9 => gh_isShut_ok (Z := Z) (d := e9) (by omega)  r9) hf (fun z_3 M_2 he_1 hf => ?_)
      refine ex_if (t := 45) (dg dc140 10 rfl) rfl hf (fun _ hf => ?_) (fun _ hf => ?_)
      · refine ex_pu (ls' := [vR 0, vI v1, vI (v2 + 1)]) (st' := []) (dg dc140 28 rfl) rfl rfl ?_
        refine ex_goto (t := 4) (dg dc140 29 rfl) rfl rfl ?_
        exact ih v1 (v2 + 1) M_2 hf
      · refine ex_pu (ls' := [vR 0, vI v1, vI v2]) (st' := [vR 0]) (dg dc140 11 rfl) rfl rfl ?_
        refine ex_getF (dg dc140 12 rfl) rfl (LOC.st (Nat.le_of_ble_eq_true rfl) rfl) rfl ?_
        refine ex_pu (ls' := [vR 0, vI v1, vI v2]) (st' := [vI v2, vR 3]) (dg dc140 13 rfl) rfl rfl ?_
        refine ex_cI (vs := [vR 3, vI v2]) (st' := []) (F := (land_openers 3 v2 M_2)) (Or.inr (Or.inl ⟨rfl, (dg dc140 14 rfl)⟩)) rfl rfl (rk1 (LOC.st (Nat.le_of_ble_eq_true rfl) rfl) rfl) rfl (fun _ r9 => land_openers_ok (Z := Z) (d := e9) (by omega) isLand3  r9) hf (fun z_6 M_5 he_4 hf => ?_)
        refine ex_pu (ls' := [vR 0, vI v1, vI v2]) (st' := [vR 0, vI z_6]) (dg dc140 15 rfl) rfl rfl ?_
        refine ex_getF (dg dc140 16 rfl) rfl (LOC.st (Nat.le_of_ble_eq_true rfl) rfl) rfl ?_
        refine ex_getI (dg dc140 17 rfl) rfl (LOC.st (Nat.le_of_ble_eq_true rfl) rfl) rfl ?_
        refine ex_pu (ls' := [vR 0, vI v1, vI v2]) (st' := [vI (-1), vI (M_5 23 4), vI z_6]) (dg dc140 18 rfl) rfl rfl ?_
        refine ex_pu (ls' := [vR 0, vI v1, vI v2]) (st' := [vI (iXor (M_5 23 4) (-1)), vI z_6]) (dg dc140 19 rfl) rfl rfl ?_
        refine ex_pu (ls' := [vR 0, vI v1, vI v2]) (st' := [vI (iAnd z_6 (iXor (M_5 23 4) (-1)))]) (dg dc140 20 rfl) rfl rfl ?_
        refine ex_if (t := 45) (dg dc140 21 rfl) rfl hf (fun _ hf => ?_) (fun _ hf => ?_)
        · refine ex_pu (ls' := [vR 0, vI v1, vI (v2 + 1)]) (st' := []) (dg dc140 28 rfl) rfl rfl ?_
          refine ex_goto (t := 4) (dg dc140 29 rfl) rfl rfl ?_
          exact ih v1 (v2 + 1) M_5 hf
        · refine ex_pu (ls' := [vR 0, vI v1, vI v2]) (st' := [vI v1]) (dg dc140 22 rfl) rfl rfl ?_
          refine ex_pu (ls' := [vR 0, vI v1, vI v2]) (st' := [vI 1, vI v1]) (dg dc140 23 rfl) rfl rfl ?_
          refine ex_pu (ls' := [vR 0, vI v1, vI v2]) (st' := [vI v2, vI 1, vI v1]) (dg dc140 24 rfl) rfl rfl ?_
          refine ex_pu (ls' := [vR 0, vI v1, vI v2]) (st' := [vI (iShl 1 v2), vI v1]) (dg dc140 25 rfl) rfl rfl ?_
          refine ex_pu (ls' := [vR 0, vI v1, vI v2]) (st' := [vI (iOr v1 (iShl 1 v2))]) (dg dc140 26 rfl) rfl rfl ?_
          refine ex_pu (ls' := [vR 0, vI (iOr v1 (iShl 1 v2)), vI v2]) (st' := []) (dg dc140 27 rfl) rfl rfl ?_
          refine ex_pu (ls' := [vR 0, vI (iOr v1 (iShl 1 v2)), vI (v2 + 1)]) (st' := []) (dg dc140 28 rfl) rfl rfl ?_
          refine ex_goto (t := 4) (dg dc140 29 rfl) rfl rfl ?_
          exact ih (iOr v1 (iShl 1 v2)) (v2 + 1) M_5 hf
def gh_needed  (M : MM) : OR :=
  (gh_needed_L4  (fun v1_7 M_8 => some (rI v1_7, M_8)) FU 0 0 M)
set_option maxRecDepth 4000 in
theorem gh_needed_ok {Z : Nat × (Nat → Int)} {d : Nat} (hd : 3 ≤ d) {M : MM}  {res : AR × MM} (hf : gh_needed  M = some res) : EX Z d 140 0 (ent 140 [vR 0]) [] M res := by
  obtain ⟨e9, rfl⟩ : ∃ e9, d = e9 + 1 := ⟨d - 1, by omega⟩
  unfold gh_needed at hf
  show EX Z _ 140 0 [vR 0, vU, vU] [] M res
  refine ex_pu (ls' := [vR 0, vU, vU]) (st' := [vI 0]) (dg dc140 0 rfl) rfl rfl ?_
  refine ex_pu (ls' := [vR 0, vI 0, vU]) (st' := []) (dg dc140 1 rfl) rfl rfl ?_
  refine ex_pu (ls' := [vR 0, vI 0, vU]) (st' := [vI 0]) (dg dc140 2 rfl) rfl rfl ?_
  refine ex_pu (ls' := [vR 0, vI 0, vI 0]) (st' := []) (dg dc140 3 rfl) rfl rfl ?_
  refine gh_needed_L4_ok hd  ?_ FU 0 0 M hf
  · intro v1_7 M_8 j0_9 j2_10 hf
    refine ex_pu (ls' := [j0_9, vI v1_7, j2_10]) (st' := [vI v1_7]) (dg dc140 30 rfl) rfl rfl ?_
    exact ex_ire (dg dc140 31 rfl) rfl hf
-- GlassHill.gate
def il147 : List (Nat × Instr × Nat) := [(0, .aload_n 0, 1), (1, .getfield 107, 3), (4, .iload_n 1, 1), (5, .invokevirtual 439, 3), (8, .ireturn, 1)]
theorem dc147 : dcs (mC 147) il147 := dc_of (by decide +kernel)
def gh_gate (v1 : Int) (M : MM) : OR :=
  (bI (ridd_gateAnswer v1 M) fun z_3 M_2 => some (rI z_3, M_2))
set_option maxRecDepth 4000 in
theorem gh_gate_ok {Z : Nat × (Nat → Int)} {d : Nat} (hd : 16 ≤ d) {M : MM}  {v1 : Int} {res : AR × MM} (hf : gh_gate v1 M = some res) : EX Z d 147 0 (ent 147 [vR 0, vI v1]) [] M res := by
  obtain ⟨e9, rfl⟩ : ∃ e9, d = e9 + 1 := ⟨d - 1, by omega⟩
  unfold gh_gate at hf
  show EX Z _ 147 0 [vR 0, vI v1] [] M res
  refine ex_pu (ls' := [vR 0, vI v1]) (st' := [vR 0]) (dg dc147 0 rfl) rfl rfl ?_
  refine ex_getF (dg dc147 1 rfl) rfl (LOC.st (Nat.le_of_ble_eq_true rfl) rfl) rfl ?_
  refine ex_pu (ls' := [vR 0, vI v1]) (st' := [vI v1, vR 161]) (dg dc147 2 rfl) rfl rfl ?_
  refine ex_cI (vs := [vR 161, vI v1]) (st' := []) (F := (ridd_gateAnswer v1 M)) (Or.inr (Or.inl ⟨rfl, (dg dc147 3 rfl)⟩)) rfl rfl (rk1 (LOC.st (Nat.le_of_ble_eq_true rfl) rfl) rfl) rfl (fun _ r9 => ridd_gateAnswer_ok (Z := Z) (d := e9) (by omega)  r9) hf (fun z_3 M_2 he_1 hf => ?_)
  exact ex_ire (dg dc147 4 rfl) rfl hf
-- GlassHill.plates
def il148 : List (Nat × Instr × Nat) := [(0, .aload_n 0, 1), (1, .getfield 10, 3), (4, .bipush 24, 2), (6, .bipush 16, 2), (8, .invokevirtual 442, 3), (11, .istore_n 2, 1), (12, .iload_n 2, 1), (13, .iconst (-1), 1), (14, .if_icmp .eq 9, 3), (17, .iload_n 2, 1), (18, .bipush 7, 2), (20, .if_icmp .le 14, 3), (23, .new 136, 3), (26, .dup, 1), (27, .ldc_w 445, 3), (30, .invokespecial 140, 3), (33, .athrow, 1), (34, .iload_n 1, 1), (35, .iconst (-1), 1), (36, .if_icmp .lt 8, 3), (39, .iload_n 1, 1), (40, .iload_n 2, 1), (41, .if_icmp .lt 14, 3), (44, .new 136, 3), (47, .dup, 1), (48, .ldc_w 447, 3), (51, .invokespecial 140, 3), (54, .athrow, 1), (55, .aload_n 0, 1), (56, .getfield 107, 3), (59, .iload_n 2, 1), (60, .iload_n 1, 1), (61, .invokevirtual 449, 3), (64, .ireturn, 1)]
theorem dc148 : dcs (mC 148) il148 := dc_of (by decide +kernel)
def gh_plates (v1 : Int) (M : MM) : OR :=
  (bI (tape_useUpPairs 24 16 M) fun z_3 M_2 => (bif cmpB .eq z_3 (-1) then thx 13 M_2 else (bif cmpB .le z_3 7 then (bif cmpB .lt v1 (-1) then thx 13 M_2 else (bif cmpB .lt v1 z_3 then (bI (ridd_platesAnswer z_3 v1 M_2) fun z_6 M_5 => some (rI z_6, M_5)) else thx 13 M_2)) else thx 13 M_2)))
set_option maxRecDepth 4000 in
theorem gh_plates_ok {Z : Nat × (Nat → Int)} {d : Nat} (hd : 4 ≤ d) {M : MM}  {v1 : Int} {res : AR × MM} (hf : gh_plates v1 M = some res) : EX Z d 148 0 (ent 148 [vR 0, vI v1]) [] M res := by
  obtain ⟨e9, rfl⟩ : ∃ e9, d = e9 + 1 := ⟨d - 1, by omega⟩
  unfold gh_plates at hf
  show EX Z _ 148 0 [vR 0, vI v1, vU] [] M res
  refine ex_pu (ls' := [vR 0, vI v1, vU]) (st' := [vR 0]) (dg dc148 0 rfl) rfl rfl ?_
  refine ex_getF (dg dc148 1 rfl) rfl (LOC.st (Nat.le_of_ble_eq_true rfl) rfl) rfl ?_
  refine ex_pu (ls' := [vR 0, vI v1, vU]) (st' := [vI 24, vR 1]) (dg dc148 2 rfl) rfl rfl ?_
  refine ex_pu (ls' := [vR 0, vI v1, vU]) (st' := [vI 16, vI 24, vR 1]) (dg dc148 3 rfl) rfl rfl ?_
  refine ex_cI (vs := [vR 1, vI 24, vI 16]) (st' := []) (F := (tape_useUpPairs 24 16 M)) (Or.inr (Or.inl ⟨rfl, (dg dc148 4 rfl)⟩)) rfl rfl (rk1 (LOC.st (Nat.le_of_ble_eq_true rfl) rfl) rfl) rfl (fun _ r9 => tape_useUpPairs_ok (Z := Z) (d := e9) (by omega)  r9) hf (fun z_3 M_2 he_1 hf => ?_)
  refine ex_pu (ls' := [vR 0, vI v1, vI z_3]) (st' := []) (dg dc148 5 rfl) rfl rfl ?_
  refine ex_pu (ls' := [vR 0, vI v1, vI z_3]) (st' := [vI z_3]) (dg dc148 6 rfl) rfl rfl ?_
  refine ex_pu (ls' := [vR 0, vI v1, vI z_3]) (st' := [vI (-1), vI z_3]) (dg dc148 7 rfl) rfl rfl ?_
  refine ex_icmp (t := 23) (dg dc148 8 rfl) rfl hf (fun _ hf => ?_) (fun _ hf => ?_)
  · exact ex_thr (ci := 13) (is := 445) (ic := 140) (ln := 10) (dg dc148 12 rfl) rfl (exN_ofW rfl (dg dc148 13 rfl) (dg dc148 14 rfl) (dg dc148 15 rfl) rfl rfl rfl) (dg dc148 16 rfl) rfl ⟨by decide, by decide⟩ hf
  · refine ex_pu (ls' := [vR 0, vI v1, vI z_3]) (st' := [vI z_3]) (dg dc148 9 rfl) rfl rfl ?_
    refine ex_pu (ls' := [vR 0, vI v1, vI z_3]) (st' := [vI 7, vI z_3]) (dg dc148 10 rfl) rfl rfl ?_
    refine ex_icmp (t := 34) (dg dc148 11 rfl) rfl hf (fun _ hf => ?_) (fun _ hf => ?_)
    · refine ex_pu (ls' := [vR 0, vI v1, vI z_3]) (st' := [vI v1]) (dg dc148 17 rfl) rfl rfl ?_
      refine ex_pu (ls' := [vR 0, vI v1, vI z_3]) (st' := [vI (-1), vI v1]) (dg dc148 18 rfl) rfl rfl ?_
      refine ex_icmp (t := 44) (dg dc148 19 rfl) rfl hf (fun _ hf => ?_) (fun _ hf => ?_)
      · exact ex_thr (ci := 13) (is := 447) (ic := 140) (ln := 10) (dg dc148 23 rfl) rfl (exN_ofW rfl (dg dc148 24 rfl) (dg dc148 25 rfl) (dg dc148 26 rfl) rfl rfl rfl) (dg dc148 27 rfl) rfl ⟨by decide, by decide⟩ hf
      · refine ex_pu (ls' := [vR 0, vI v1, vI z_3]) (st' := [vI v1]) (dg dc148 20 rfl) rfl rfl ?_
        refine ex_pu (ls' := [vR 0, vI v1, vI z_3]) (st' := [vI z_3, vI v1]) (dg dc148 21 rfl) rfl rfl ?_
        refine ex_icmp (t := 55) (dg dc148 22 rfl) rfl hf (fun _ hf => ?_) (fun _ hf => ?_)
        · refine ex_pu (ls' := [vR 0, vI v1, vI z_3]) (st' := [vR 0]) (dg dc148 28 rfl) rfl rfl ?_
          refine ex_getF (dg dc148 29 rfl) rfl (LOC.st (Nat.le_of_ble_eq_true rfl) rfl) rfl ?_
          refine ex_pu (ls' := [vR 0, vI v1, vI z_3]) (st' := [vI z_3, vR 161]) (dg dc148 30 rfl) rfl rfl ?_
          refine ex_pu (ls' := [vR 0, vI v1, vI z_3]) (st' := [vI v1, vI z_3, vR 161]) (dg dc148 31 rfl) rfl rfl ?_
          refine ex_cI (vs := [vR 161, vI z_3, vI v1]) (st' := []) (F := (ridd_platesAnswer z_3 v1 M_2)) (Or.inr (Or.inl ⟨rfl, (dg dc148 32 rfl)⟩)) rfl rfl (rk1 (LOC.st (Nat.le_of_ble_eq_true rfl) rfl) rfl) rfl (fun _ r9 => ridd_platesAnswer_ok (Z := Z) (d := e9) (by omega)  r9) hf (fun z_6 M_5 he_4 hf => ?_)
          exact ex_ire (dg dc148 33 rfl) rfl hf
        · exact ex_thr (ci := 13) (is := 447) (ic := 140) (ln := 10) (dg dc148 23 rfl) rfl (exN_ofW rfl (dg dc148 24 rfl) (dg dc148 25 rfl) (dg dc148 26 rfl) rfl rfl rfl) (dg dc148 27 rfl) rfl ⟨by decide, by decide⟩ hf
    · exact ex_thr (ci := 13) (is := 445) (ic := 140) (ln := 10) (dg dc148 12 rfl) rfl (exN_ofW rfl (dg dc148 13 rfl) (dg dc148 14 rfl) (dg dc148 15 rfl) rfl rfl rfl) (dg dc148 16 rfl) rfl ⟨by decide, by decide⟩ hf
-- GlassHillLaw.place
def il305 : List (Nat × Instr × Nat) := [(0, .aload_n 3, 1), (1, .iconst 0, 1), (2, .aload_n 0, 1), (3, .iload_n 1, 1), (4, .iload_n 2, 1), (5, .invokevirtual 20, 3), (8, .i2l, 1), (9, .lastore, 1), (10, .goto 11, 3), (13, .astore 4, 2), (15, .iconst 1, 1), (16, .ireturn, 1), (17, .astore 4, 2), (19, .iconst 2, 1), (20, .ireturn, 1), (21, .iconst 0, 1), (22, .ireturn, 1)]
theorem dc305 : dcs (mC 305) il305 := dc_of (by decide +kernel)
def drv_place (v1 : Int) (v2 : Int) (M : MM) : OR :=
  (bH (gh_place v1 v2 M) (fun z_3 M_2 => (bif inB 0 1 then (sM (mU M_2 181 0 (w32 z_3)) fun M_4 => some (rI 0, M_4)) else none)) fun c_6 M_2 => (bif Nat.beq c_6 15 then some (rI 1, M_2) else (bif Nat.beq c_6 16 then some (rI 2, M_2) else none)))
set_option maxRecDepth 4000 in
theorem drv_place_ok {Z : Nat × (Nat → Int)} {d : Nat} (hd : 4 ≤ d) {M : MM}  {v1 v2 : Int} {res : AR × MM} (hf : drv_place v1 v2 M = some res) : EX Z d 305 0 (ent 305 [vR 0, vI v1, vI v2, vR 181]) [] M res := by
  obtain ⟨e9, rfl⟩ : ∃ e9, d = e9 + 1 := ⟨d - 1, by omega⟩
  unfold drv_place at hf
  show EX Z _ 305 0 [vR 0, vI v1, vI v2, vR 181, vU] [] M res
  refine ex_pu (ls' := [vR 0, vI v1, vI v2, vR 181, vU]) (st' := [vR 181]) (dg dc305 0 rfl) rfl rfl ?_
  refine ex_pu (ls' := [vR 0, vI v1, vI v2, vR 181, vU]) (st' := [vI 0, vR 181]) (dg dc305 1 rfl) rfl rfl ?_
  refine ex_pu (ls' := [vR 0, vI v1, vI v2, vR 181, vU]) (st' := [vR 0, vI 0, vR 181]) (dg dc305 2 rfl) rfl rfl ?_
  refine ex_pu (ls' := [vR 0, vI v1, vI v2, vR 181, vU]) (st' := [vI v1, vR 0, vI 0, vR 181]) (dg dc305 3 rfl) rfl rfl ?_
  refine ex_pu (ls' := [vR 0, vI v1, vI v2, vR 181, vU]) (st' := [vI v2, vI v1, vR 0, vI 0, vR 181]) (dg dc305 4 rfl) rfl rfl ?_
  refine ex_cH (vs := [vR 0, vI v1, vI v2]) (st' := [vI 0, vR 181]) (F := (gh_place v1 v2 M)) (Or.inr (Or.inl ⟨rfl, (dg dc305 5 rfl)⟩)) rfl rfl (rk1 (LOC.st (Nat.le_of_ble_eq_true rfl) rfl) rfl) (fun _ r9 => gh_place_ok (Z := Z) (d := e9) (by omega)  r9) hf (fun z_3 M_2 he_1 hf => ?_) (fun c_6 M_2 he_1 hf => ?_)
  · refine ex_pu (ls' := [vR 0, vI v1, vI v2, vR 181, vU]) (st' := [vJ (w32 z_3), vI 0, vR 181]) (dg dc305 6 rfl) rfl rfl ?_
    refine ex_last (dg dc305 7 rfl) (LOC.st (Nat.le_of_ble_eq_true rfl) rfl) rfl rfl hf (fun _ hf => ?_)
    refine ex_gen hf (fun M_4 hM_5 hf => ?_)
    refine ex_goto (t := 21) (dg dc305 8 rfl) rfl rfl ?_
    refine ex_pu (ls' := [vR 0, vI v1, vI v2, vR 181, vU]) (st' := [vI 0]) (dg dc305 15 rfl) rfl rfl ?_
    exact ex_ire (dg dc305 16 rfl) rfl hf
  · refine ex_bif hf (fun hb hf => ?_) (fun _ hf => ?_)
    · obtain rfl := bq hb
      refine ex_hnd (vs := [vR 0, vI v1, vI v2]) (st' := [vI 0, vR 181]) (ci := 15) (g := 13) (k0 := 4) (g2 := 15) (Or.inr (Or.inl ⟨rfl, (dg dc305 5 rfl)⟩)) rfl rfl (fun _ hR => RK.calO hR rfl (rk1 (LOC.st (Nat.le_of_ble_eq_true rfl) rfl) rfl)) ⟨by decide, by decide⟩ (by decide +kernel) (Or.inr ⟨(dg dc305 9 rfl), rfl⟩) (blt_ok rfl) (gh_place_ok (Z := Z) (d := e9) (by omega)  he_1) ?_
      show EX Z _ 305 15 [vR 0, vI v1, vI v2, vR 181, vU] [] M_2 res
      refine ex_pu (ls' := [vR 0, vI v1, vI v2, vR 181, vU]) (st' := [vI 1]) (dg dc305 10 rfl) rfl rfl ?_
      exact ex_ire (dg dc305 11 rfl) rfl hf
    · refine ex_bif hf (fun hb hf => ?_) (fun _ hf => ?_)
      · obtain rfl := bq hb
        refine ex_hnd (vs := [vR 0, vI v1, vI v2]) (st' := [vI 0, vR 181]) (ci := 16) (g := 17) (k0 := 4) (g2 := 19) (Or.inr (Or.inl ⟨rfl, (dg dc305 5 rfl)⟩)) rfl rfl (fun _ hR => RK.calO hR rfl (rk1 (LOC.st (Nat.le_of_ble_eq_true rfl) rfl) rfl)) ⟨by decide, by decide⟩ (by decide +kernel) (Or.inr ⟨(dg dc305 12 rfl), rfl⟩) (blt_ok rfl) (gh_place_ok (Z := Z) (d := e9) (by omega)  he_1) ?_
        show EX Z _ 305 19 [vR 0, vI v1, vI v2, vR 181, vU] [] M_2 res
        refine ex_pu (ls' := [vR 0, vI v1, vI v2, vR 181, vU]) (st' := [vI 2]) (dg dc305 13 rfl) rfl rfl ?_
        exact ex_ire (dg dc305 14 rfl) rfl hf
      · cases hf
-- GlassHillLaw.rule
def il310 : List (Nat × Instr × Nat) := [(0, .aload_n 3, 1), (1, .iconst 0, 1), (2, .aload_n 0, 1), (3, .iload_n 1, 1), (4, .iload_n 2, 1), (5, .invokevirtual 43, 3), (8, .i2l, 1), (9, .lastore, 1), (10, .goto 15, 3), (13, .astore 4, 2), (15, .iconst 1, 1), (16, .ireturn, 1), (17, .astore 4, 2), (19, .iconst 2, 1), (20, .ireturn, 1), (21, .astore 4, 2), (23, .iconst 3, 1), (24, .ireturn, 1), (25, .iconst 0, 1), (26, .ireturn, 1)]
theorem dc310 : dcs (mC 310) il310 := dc_of (by decide +kernel)
def drv_rule (v1 : Int) (v2 : Int) (M : MM) : OR :=
  (bH (gh_rule v1 v2 M) (fun z_3 M_2 => (bif inB 0 1 then (sM (mU M_2 181 0 (w32 z_3)) fun M_4 => some (rI 0, M_4)) else none)) fun c_6 M_2 => (bif Nat.beq c_6 15 then some (rI 1, M_2) else (bif Nat.beq c_6 14 then some (rI 2, M_2) else (bif Nat.beq c_6 16 then some (rI 3, M_2) else none))))
set_option maxRecDepth 4000 in
theorem drv_rule_ok {Z : Nat × (Nat → Int)} {d : Nat} (hd : 6 ≤ d) {M : MM}  {v1 v2 : Int} {res : AR × MM} (hf : drv_rule v1 v2 M = some res) : EX Z d 310 0 (ent 310 [vR 0, vI v1, vI v2, vR 181]) [] M res := by
  obtain ⟨e9, rfl⟩ : ∃ e9, d = e9 + 1 := ⟨d - 1, by omega⟩
  unfold drv_rule at hf
  show EX Z _ 310 0 [vR 0, vI v1, vI v2, vR 181, vU] [] M res
  refine ex_pu (ls' := [vR 0, vI v1, vI v2, vR 181, vU]) (st' := [vR 181]) (dg dc310 0 rfl) rfl rfl ?_
  refine ex_pu (ls' := [vR 0, vI v1, vI v2, vR 181, vU]) (st' := [vI 0, vR 181]) (dg dc310 1 rfl) rfl rfl ?_
  refine ex_pu (ls' := [vR 0, vI v1, vI v2, vR 181, vU]) (st' := [vR 0, vI 0, vR 181]) (dg dc310 2 rfl) rfl rfl ?_
  refine ex_pu (ls' := [vR 0, vI v1, vI v2, vR 181, vU]) (st' := [vI v1, vR 0, vI 0, vR 181]) (dg dc310 3 rfl) rfl rfl ?_
  refine ex_pu (ls' := [vR 0, vI v1, vI v2, vR 181, vU]) (st' := [vI v2, vI v1, vR 0, vI 0, vR 181]) (dg dc310 4 rfl) rfl rfl ?_
  refine ex_cH (vs := [vR 0, vI v1, vI v2]) (st' := [vI 0, vR 181]) (F := (gh_rule v1 v2 M)) (Or.inr (Or.inl ⟨rfl, (dg dc310 5 rfl)⟩)) rfl rfl (rk1 (LOC.st (Nat.le_of_ble_eq_true rfl) rfl) rfl) (fun _ r9 => gh_rule_ok (Z := Z) (d := e9) (by omega)  r9) hf (fun z_3 M_2 he_1 hf => ?_) (fun c_6 M_2 he_1 hf => ?_)
  · refine ex_pu (ls' := [vR 0, vI v1, vI v2, vR 181, vU]) (st' := [vJ (w32 z_3), vI 0, vR 181]) (dg dc310 6 rfl) rfl rfl ?_
    refine ex_last (dg dc310 7 rfl) (LOC.st (Nat.le_of_ble_eq_true rfl) rfl) rfl rfl hf (fun _ hf => ?_)
    refine ex_gen hf (fun M_4 hM_5 hf => ?_)
    refine ex_goto (t := 25) (dg dc310 8 rfl) rfl rfl ?_
    refine ex_pu (ls' := [vR 0, vI v1, vI v2, vR 181, vU]) (st' := [vI 0]) (dg dc310 18 rfl) rfl rfl ?_
    exact ex_ire (dg dc310 19 rfl) rfl hf
  · refine ex_bif hf (fun hb hf => ?_) (fun _ hf => ?_)
    · obtain rfl := bq hb
      refine ex_hnd (vs := [vR 0, vI v1, vI v2]) (st' := [vI 0, vR 181]) (ci := 15) (g := 13) (k0 := 4) (g2 := 15) (Or.inr (Or.inl ⟨rfl, (dg dc310 5 rfl)⟩)) rfl rfl (fun _ hR => RK.calO hR rfl (rk1 (LOC.st (Nat.le_of_ble_eq_true rfl) rfl) rfl)) ⟨by decide, by decide⟩ (by decide +kernel) (Or.inr ⟨(dg dc310 9 rfl), rfl⟩) (blt_ok rfl) (gh_rule_ok (Z := Z) (d := e9) (by omega)  he_1) ?_
      show EX Z _ 310 15 [vR 0, vI v1, vI v2, vR 181, vU] [] M_2 res
      refine ex_pu (ls' := [vR 0, vI v1, vI v2, vR 181, vU]) (st' := [vI 1]) (dg dc310 10 rfl) rfl rfl ?_
      exact ex_ire (dg dc310 11 rfl) rfl hf
    · refine ex_bif hf (fun hb hf => ?_) (fun _ hf => ?_)
      · obtain rfl := bq hb
        refine ex_hnd (vs := [vR 0, vI v1, vI v2]) (st' := [vI 0, vR 181]) (ci := 14) (g := 17) (k0 := 4) (g2 := 19) (Or.inr (Or.inl ⟨rfl, (dg dc310 5 rfl)⟩)) rfl rfl (fun _ hR => RK.calO hR rfl (rk1 (LOC.st (Nat.le_of_ble_eq_true rfl) rfl) rfl)) ⟨by decide, by decide⟩ (by decide +kernel) (Or.inr ⟨(dg dc310 12 rfl), rfl⟩) (blt_ok rfl) (gh_rule_ok (Z := Z) (d := e9) (by omega)  he_1) ?_
        show EX Z _ 310 19 [vR 0, vI v1, vI v2, vR 181, vU] [] M_2 res
        refine ex_pu (ls' := [vR 0, vI v1, vI v2, vR 181, vU]) (st' := [vI 2]) (dg dc310 13 rfl) rfl rfl ?_
        exact ex_ire (dg dc310 14 rfl) rfl hf
      · refine ex_bif hf (fun hb hf => ?_) (fun _ hf => ?_)
        · obtain rfl := bq hb
          refine ex_hnd (vs := [vR 0, vI v1, vI v2]) (st' := [vI 0, vR 181]) (ci := 16) (g := 21) (k0 := 4) (g2 := 23) (Or.inr (Or.inl ⟨rfl, (dg dc310 5 rfl)⟩)) rfl rfl (fun _ hR => RK.calO hR rfl (rk1 (LOC.st (Nat.le_of_ble_eq_true rfl) rfl) rfl)) ⟨by decide, by decide⟩ (by decide +kernel) (Or.inr ⟨(dg dc310 15 rfl), rfl⟩) (blt_ok rfl) (gh_rule_ok (Z := Z) (d := e9) (by omega)  he_1) ?_
          show EX Z _ 310 23 [vR 0, vI v1, vI v2, vR 181, vU] [] M_2 res
          refine ex_pu (ls' := [vR 0, vI v1, vI v2, vR 181, vU]) (st' := [vI 3]) (dg dc310 16 rfl) rfl rfl ?_
          exact ex_ire (dg dc310 17 rfl) rfl hf
        · cases hf
-- GlassHillLaw.go
def il312 : List (Nat × Instr × Nat) := [(0, .aload_n 2, 1), (1, .iconst 0, 1), (2, .aload_n 0, 1), (3, .iload_n 1, 1), (4, .invokevirtual 50, 3), (7, .i2l, 1), (8, .lastore, 1), (9, .goto 9, 3), (12, .astore_n 3, 1), (13, .iconst 1, 1), (14, .ireturn, 1), (15, .astore_n 3, 1), (16, .iconst 2, 1), (17, .ireturn, 1), (18, .iconst 0, 1), (19, .ireturn, 1)]
theorem dc312 : dcs (mC 312) il312 := dc_of (by decide +kernel)
def drv_go (v1 : Int) (M : MM) : OR :=
  (bH (gh_go v1 M) (fun z_3 M_2 => (bif inB 0 1 then (sM (mU M_2 181 0 (w32 z_3)) fun M_4 => some (rI 0, M_4)) else none)) fun c_6 M_2 => (bif Nat.beq c_6 15 then some (rI 1, M_2) else (bif Nat.beq c_6 14 then some (rI 2, M_2) else none)))
set_option maxRecDepth 4000 in
theorem drv_go_ok {Z : Nat × (Nat → Int)} {d : Nat} (hd : 6 ≤ d) {M : MM}  {v1 : Int} {res : AR × MM} (hf : drv_go v1 M = some res) : EX Z d 312 0 (ent 312 [vR 0, vI v1, vR 181]) [] M res := by
  obtain ⟨e9, rfl⟩ : ∃ e9, d = e9 + 1 := ⟨d - 1, by omega⟩
  unfold drv_go at hf
  show EX Z _ 312 0 [vR 0, vI v1, vR 181, vU] [] M res
  refine ex_pu (ls' := [vR 0, vI v1, vR 181, vU]) (st' := [vR 181]) (dg dc312 0 rfl) rfl rfl ?_
  refine ex_pu (ls' := [vR 0, vI v1, vR 181, vU]) (st' := [vI 0, vR 181]) (dg dc312 1 rfl) rfl rfl ?_
  refine ex_pu (ls' := [vR 0, vI v1, vR 181, vU]) (st' := [vR 0, vI 0, vR 181]) (dg dc312 2 rfl) rfl rfl ?_
  refine ex_pu (ls' := [vR 0, vI v1, vR 181, vU]) (st' := [vI v1, vR 0, vI 0, vR 181]) (dg dc312 3 rfl) rfl rfl ?_
  refine ex_cH (vs := [vR 0, vI v1]) (st' := [vI 0, vR 181]) (F := (gh_go v1 M)) (Or.inr (Or.inl ⟨rfl, (dg dc312 4 rfl)⟩)) rfl rfl (rk1 (LOC.st (Nat.le_of_ble_eq_true rfl) rfl) rfl) (fun _ r9 => gh_go_ok (Z := Z) (d := e9) (by omega)  r9) hf (fun z_3 M_2 he_1 hf => ?_) (fun c_6 M_2 he_1 hf => ?_)
  · refine ex_pu (ls' := [vR 0, vI v1, vR 181, vU]) (st' := [vJ (w32 z_3), vI 0, vR 181]) (dg dc312 5 rfl) rfl rfl ?_
    refine ex_last (dg dc312 6 rfl) (LOC.st (Nat.le_of_ble_eq_true rfl) rfl) rfl rfl hf (fun _ hf => ?_)
    refine ex_gen hf (fun M_4 hM_5 hf => ?_)
    refine ex_goto (t := 18) (dg dc312 7 rfl) rfl rfl ?_
    refine ex_pu (ls' := [vR 0, vI v1, vR 181, vU]) (st' := [vI 0]) (dg dc312 14 rfl) rfl rfl ?_
    exact ex_ire (dg dc312 15 rfl) rfl hf
  · refine ex_bif hf (fun hb hf => ?_) (fun _ hf => ?_)
    · obtain rfl := bq hb
      refine ex_hnd (vs := [vR 0, vI v1]) (st' := [vI 0, vR 181]) (ci := 15) (g := 12) (k0 := 3) (g2 := 13) (Or.inr (Or.inl ⟨rfl, (dg dc312 4 rfl)⟩)) rfl rfl (fun _ hR => RK.calO hR rfl (rk1 (LOC.st (Nat.le_of_ble_eq_true rfl) rfl) rfl)) ⟨by decide, by decide⟩ (by decide +kernel) (Or.inl ⟨3, rfl, (dg dc312 8 rfl), rfl⟩) (blt_ok rfl) (gh_go_ok (Z := Z) (d := e9) (by omega)  he_1) ?_
      show EX Z _ 312 13 [vR 0, vI v1, vR 181, vU] [] M_2 res
      refine ex_pu (ls' := [vR 0, vI v1, vR 181, vU]) (st' := [vI 1]) (dg dc312 9 rfl) rfl rfl ?_
      exact ex_ire (dg dc312 10 rfl) rfl hf
    · refine ex_bif hf (fun hb hf => ?_) (fun _ hf => ?_)
      · obtain rfl := bq hb
        refine ex_hnd (vs := [vR 0, vI v1]) (st' := [vI 0, vR 181]) (ci := 14) (g := 15) (k0 := 3) (g2 := 16) (Or.inr (Or.inl ⟨rfl, (dg dc312 4 rfl)⟩)) rfl rfl (fun _ hR => RK.calO hR rfl (rk1 (LOC.st (Nat.le_of_ble_eq_true rfl) rfl) rfl)) ⟨by decide, by decide⟩ (by decide +kernel) (Or.inl ⟨3, rfl, (dg dc312 11 rfl), rfl⟩) (blt_ok rfl) (gh_go_ok (Z := Z) (d := e9) (by omega)  he_1) ?_
        show EX Z _ 312 16 [vR 0, vI v1, vR 181, vU] [] M_2 res
        refine ex_pu (ls' := [vR 0, vI v1, vR 181, vU]) (st' := [vI 2]) (dg dc312 12 rfl) rfl rfl ?_
        exact ex_ire (dg dc312 13 rfl) rfl hf
      · cases hf
-- GlassHillLaw.pay
def il314 : List (Nat × Instr × Nat) := [(0, .aload_n 2, 1), (1, .iconst 0, 1), (2, .aload_n 0, 1), (3, .iload_n 1, 1), (4, .invokevirtual 56, 3), (7, .i2l, 1), (8, .lastore, 1), (9, .goto 9, 3), (12, .astore_n 3, 1), (13, .iconst 1, 1), (14, .ireturn, 1), (15, .astore_n 3, 1), (16, .iconst 2, 1), (17, .ireturn, 1), (18, .iconst 0, 1), (19, .ireturn, 1)]
theorem dc314 : dcs (mC 314) il314 := dc_of (by decide +kernel)
def drv_pay (v1 : Int) (M : MM) : OR :=
  (bH (gh_pay v1 M) (fun z_3 M_2 => (bif inB 0 1 then (sM (mU M_2 181 0 (w32 z_3)) fun M_4 => some (rI 0, M_4)) else none)) fun c_6 M_2 => (bif Nat.beq c_6 15 then some (rI 1, M_2) else (bif Nat.beq c_6 14 then some (rI 2, M_2) else none)))
set_option maxRecDepth 4000 in
theorem drv_pay_ok {Z : Nat × (Nat → Int)} {d : Nat} (hd : 5 ≤ d) {M : MM}  {v1 : Int} {res : AR × MM} (hf : drv_pay v1 M = some res) : EX Z d 314 0 (ent 314 [vR 0, vI v1, vR 181]) [] M res := by
  obtain ⟨e9, rfl⟩ : ∃ e9, d = e9 + 1 := ⟨d - 1, by omega⟩
  unfold drv_pay at hf
  show EX Z _ 314 0 [vR 0, vI v1, vR 181, vU] [] M res
  refine ex_pu (ls' := [vR 0, vI v1, vR 181, vU]) (st' := [vR 181]) (dg dc314 0 rfl) rfl rfl ?_
  refine ex_pu (ls' := [vR 0, vI v1, vR 181, vU]) (st' := [vI 0, vR 181]) (dg dc314 1 rfl) rfl rfl ?_
  refine ex_pu (ls' := [vR 0, vI v1, vR 181, vU]) (st' := [vR 0, vI 0, vR 181]) (dg dc314 2 rfl) rfl rfl ?_
  refine ex_pu (ls' := [vR 0, vI v1, vR 181, vU]) (st' := [vI v1, vR 0, vI 0, vR 181]) (dg dc314 3 rfl) rfl rfl ?_
  refine ex_cH (vs := [vR 0, vI v1]) (st' := [vI 0, vR 181]) (F := (gh_pay v1 M)) (Or.inr (Or.inl ⟨rfl, (dg dc314 4 rfl)⟩)) rfl rfl (rk1 (LOC.st (Nat.le_of_ble_eq_true rfl) rfl) rfl) (fun _ r9 => gh_pay_ok (Z := Z) (d := e9) (by omega)  r9) hf (fun z_3 M_2 he_1 hf => ?_) (fun c_6 M_2 he_1 hf => ?_)
  · refine ex_pu (ls' := [vR 0, vI v1, vR 181, vU]) (st' := [vJ (w32 z_3), vI 0, vR 181]) (dg dc314 5 rfl) rfl rfl ?_
    refine ex_last (dg dc314 6 rfl) (LOC.st (Nat.le_of_ble_eq_true rfl) rfl) rfl rfl hf (fun _ hf => ?_)
    refine ex_gen hf (fun M_4 hM_5 hf => ?_)
    refine ex_goto (t := 18) (dg dc314 7 rfl) rfl rfl ?_
    refine ex_pu (ls' := [vR 0, vI v1, vR 181, vU]) (st' := [vI 0]) (dg dc314 14 rfl) rfl rfl ?_
    exact ex_ire (dg dc314 15 rfl) rfl hf
  · refine ex_bif hf (fun hb hf => ?_) (fun _ hf => ?_)
    · obtain rfl := bq hb
      refine ex_hnd (vs := [vR 0, vI v1]) (st' := [vI 0, vR 181]) (ci := 15) (g := 12) (k0 := 3) (g2 := 13) (Or.inr (Or.inl ⟨rfl, (dg dc314 4 rfl)⟩)) rfl rfl (fun _ hR => RK.calO hR rfl (rk1 (LOC.st (Nat.le_of_ble_eq_true rfl) rfl) rfl)) ⟨by decide, by decide⟩ (by decide +kernel) (Or.inl ⟨3, rfl, (dg dc314 8 rfl), rfl⟩) (blt_ok rfl) (gh_pay_ok (Z := Z) (d := e9) (by omega)  he_1) ?_
      show EX Z _ 314 13 [vR 0, vI v1, vR 181, vU] [] M_2 res
      refine ex_pu (ls' := [vR 0, vI v1, vR 181, vU]) (st' := [vI 1]) (dg dc314 9 rfl) rfl rfl ?_
      exact ex_ire (dg dc314 10 rfl) rfl hf
    · refine ex_bif hf (fun hb hf => ?_) (fun _ hf => ?_)
      · obtain rfl := bq hb
        refine ex_hnd (vs := [vR 0, vI v1]) (st' := [vI 0, vR 181]) (ci := 14) (g := 15) (k0 := 3) (g2 := 16) (Or.inr (Or.inl ⟨rfl, (dg dc314 4 rfl)⟩)) rfl rfl (fun _ hR => RK.calO hR rfl (rk1 (LOC.st (Nat.le_of_ble_eq_true rfl) rfl) rfl)) ⟨by decide, by decide⟩ (by decide +kernel) (Or.inl ⟨3, rfl, (dg dc314 11 rfl), rfl⟩) (blt_ok rfl) (gh_pay_ok (Z := Z) (d := e9) (by omega)  he_1) ?_
        show EX Z _ 314 16 [vR 0, vI v1, vR 181, vU] [] M_2 res
        refine ex_pu (ls' := [vR 0, vI v1, vR 181, vU]) (st' := [vI 2]) (dg dc314 12 rfl) rfl rfl ?_
        exact ex_ire (dg dc314 13 rfl) rfl hf
      · cases hf
-- GlassHillLaw.take
def il315 : List (Nat × Instr × Nat) := [(0, .aload_n 2, 1), (1, .iconst 0, 1), (2, .aload_n 0, 1), (3, .iload_n 1, 1), (4, .invokevirtual 59, 3), (7, .i2l, 1), (8, .lastore, 1), (9, .goto 9, 3), (12, .astore_n 3, 1), (13, .iconst 1, 1), (14, .ireturn, 1), (15, .astore_n 3, 1), (16, .iconst 2, 1), (17, .ireturn, 1), (18, .iconst 0, 1), (19, .ireturn, 1)]
theorem dc315 : dcs (mC 315) il315 := dc_of (by decide +kernel)
def drv_take (v1 : Int) (M : MM) : OR :=
  (bH (gh_take v1 M) (fun z_3 M_2 => (bif inB 0 1 then (sM (mU M_2 181 0 (w32 z_3)) fun M_4 => some (rI 0, M_4)) else none)) fun c_6 M_2 => (bif Nat.beq c_6 15 then some (rI 1, M_2) else (bif Nat.beq c_6 14 then some (rI 2, M_2) else none)))
set_option maxRecDepth 4000 in
theorem drv_take_ok {Z : Nat × (Nat → Int)} {d : Nat} (hd : 5 ≤ d) {M : MM}  {v1 : Int} {res : AR × MM} (hf : drv_take v1 M = some res) : EX Z d 315 0 (ent 315 [vR 0, vI v1, vR 181]) [] M res := by
  obtain ⟨e9, rfl⟩ : ∃ e9, d = e9 + 1 := ⟨d - 1, by omega⟩
  unfold drv_take at hf
  show EX Z _ 315 0 [vR 0, vI v1, vR 181, vU] [] M res
  refine ex_pu (ls' := [vR 0, vI v1, vR 181, vU]) (st' := [vR 181]) (dg dc315 0 rfl) rfl rfl ?_
  refine ex_pu (ls' := [vR 0, vI v1, vR 181, vU]) (st' := [vI 0, vR 181]) (dg dc315 1 rfl) rfl rfl ?_
  refine ex_pu (ls' := [vR 0, vI v1, vR 181, vU]) (st' := [vR 0, vI 0, vR 181]) (dg dc315 2 rfl) rfl rfl ?_
  refine ex_pu (ls' := [vR 0, vI v1, vR 181, vU]) (st' := [vI v1, vR 0, vI 0, vR 181]) (dg dc315 3 rfl) rfl rfl ?_
  refine ex_cH (vs := [vR 0, vI v1]) (st' := [vI 0, vR 181]) (F := (gh_take v1 M)) (Or.inr (Or.inl ⟨rfl, (dg dc315 4 rfl)⟩)) rfl rfl (rk1 (LOC.st (Nat.le_of_ble_eq_true rfl) rfl) rfl) (fun _ r9 => gh_take_ok (Z := Z) (d := e9) (by omega)  r9) hf (fun z_3 M_2 he_1 hf => ?_) (fun c_6 M_2 he_1 hf => ?_)
  · refine ex_pu (ls' := [vR 0, vI v1, vR 181, vU]) (st' := [vJ (w32 z_3), vI 0, vR 181]) (dg dc315 5 rfl) rfl rfl ?_
    refine ex_last (dg dc315 6 rfl) (LOC.st (Nat.le_of_ble_eq_true rfl) rfl) rfl rfl hf (fun _ hf => ?_)
    refine ex_gen hf (fun M_4 hM_5 hf => ?_)
    refine ex_goto (t := 18) (dg dc315 7 rfl) rfl rfl ?_
    refine ex_pu (ls' := [vR 0, vI v1, vR 181, vU]) (st' := [vI 0]) (dg dc315 14 rfl) rfl rfl ?_
    exact ex_ire (dg dc315 15 rfl) rfl hf
  · refine ex_bif hf (fun hb hf => ?_) (fun _ hf => ?_)
    · obtain rfl := bq hb
      refine ex_hnd (vs := [vR 0, vI v1]) (st' := [vI 0, vR 181]) (ci := 15) (g := 12) (k0 := 3) (g2 := 13) (Or.inr (Or.inl ⟨rfl, (dg dc315 4 rfl)⟩)) rfl rfl (fun _ hR => RK.calO hR rfl (rk1 (LOC.st (Nat.le_of_ble_eq_true rfl) rfl) rfl)) ⟨by decide, by decide⟩ (by decide +kernel) (Or.inl ⟨3, rfl, (dg dc315 8 rfl), rfl⟩) (blt_ok rfl) (gh_take_ok (Z := Z) (d := e9) (by omega)  he_1) ?_
      show EX Z _ 315 13 [vR 0, vI v1, vR 181, vU] [] M_2 res
      refine ex_pu (ls' := [vR 0, vI v1, vR 181, vU]) (st' := [vI 1]) (dg dc315 9 rfl) rfl rfl ?_
      exact ex_ire (dg dc315 10 rfl) rfl hf
    · refine ex_bif hf (fun hb hf => ?_) (fun _ hf => ?_)
      · obtain rfl := bq hb
        refine ex_hnd (vs := [vR 0, vI v1]) (st' := [vI 0, vR 181]) (ci := 14) (g := 15) (k0 := 3) (g2 := 16) (Or.inr (Or.inl ⟨rfl, (dg dc315 4 rfl)⟩)) rfl rfl (fun _ hR => RK.calO hR rfl (rk1 (LOC.st (Nat.le_of_ble_eq_true rfl) rfl) rfl)) ⟨by decide, by decide⟩ (by decide +kernel) (Or.inl ⟨3, rfl, (dg dc315 11 rfl), rfl⟩) (blt_ok rfl) (gh_take_ok (Z := Z) (d := e9) (by omega)  he_1) ?_
        show EX Z _ 315 16 [vR 0, vI v1, vR 181, vU] [] M_2 res
        refine ex_pu (ls' := [vR 0, vI v1, vR 181, vU]) (st' := [vI 2]) (dg dc315 12 rfl) rfl rfl ?_
        exact ex_ire (dg dc315 13 rfl) rfl hf
      · cases hf
-- GlassHillLaw.stands
def il322 : List (Nat × Instr × Nat) := [(0, .aload_n 3, 1), (1, .iconst 0, 1), (2, .aload_n 0, 1), (3, .iload_n 1, 1), (4, .iload_n 2, 1), (5, .invokevirtual 81, 3), (8, .i2l, 1), (9, .lastore, 1), (10, .goto 7, 3), (13, .astore 4, 2), (15, .iconst 1, 1), (16, .ireturn, 1), (17, .iconst 0, 1), (18, .ireturn, 1)]
theorem dc322 : dcs (mC 322) il322 := dc_of (by decide +kernel)
def drv_stands (v1 : Int) (v2 : Int) (M : MM) : OR :=
  (bH (gh_stands v1 v2 M) (fun z_3 M_2 => (bif inB 0 1 then (sM (mU M_2 181 0 (w32 z_3)) fun M_4 => some (rI 0, M_4)) else none)) fun c_6 M_2 => (bif Nat.beq c_6 15 then some (rI 1, M_2) else none))
set_option maxRecDepth 4000 in
theorem drv_stands_ok {Z : Nat × (Nat → Int)} {d : Nat} (hd : 4 ≤ d) {M : MM}  {v1 v2 : Int} {res : AR × MM} (hf : drv_stands v1 v2 M = some res) : EX Z d 322 0 (ent 322 [vR 0, vI v1, vI v2, vR 181]) [] M res := by
  obtain ⟨e9, rfl⟩ : ∃ e9, d = e9 + 1 := ⟨d - 1, by omega⟩
  unfold drv_stands at hf
  show EX Z _ 322 0 [vR 0, vI v1, vI v2, vR 181, vU] [] M res
  refine ex_pu (ls' := [vR 0, vI v1, vI v2, vR 181, vU]) (st' := [vR 181]) (dg dc322 0 rfl) rfl rfl ?_
  refine ex_pu (ls' := [vR 0, vI v1, vI v2, vR 181, vU]) (st' := [vI 0, vR 181]) (dg dc322 1 rfl) rfl rfl ?_
  refine ex_pu (ls' := [vR 0, vI v1, vI v2, vR 181, vU]) (st' := [vR 0, vI 0, vR 181]) (dg dc322 2 rfl) rfl rfl ?_
  refine ex_pu (ls' := [vR 0, vI v1, vI v2, vR 181, vU]) (st' := [vI v1, vR 0, vI 0, vR 181]) (dg dc322 3 rfl) rfl rfl ?_
  refine ex_pu (ls' := [vR 0, vI v1, vI v2, vR 181, vU]) (st' := [vI v2, vI v1, vR 0, vI 0, vR 181]) (dg dc322 4 rfl) rfl rfl ?_
  refine ex_cH (vs := [vR 0, vI v1, vI v2]) (st' := [vI 0, vR 181]) (F := (gh_stands v1 v2 M)) (Or.inr (Or.inl ⟨rfl, (dg dc322 5 rfl)⟩)) rfl rfl (rk1 (LOC.st (Nat.le_of_ble_eq_true rfl) rfl) rfl) (fun _ r9 => gh_stands_ok (Z := Z) (d := e9) (by omega)  r9) hf (fun z_3 M_2 he_1 hf => ?_) (fun c_6 M_2 he_1 hf => ?_)
  · refine ex_pu (ls' := [vR 0, vI v1, vI v2, vR 181, vU]) (st' := [vJ (w32 z_3), vI 0, vR 181]) (dg dc322 6 rfl) rfl rfl ?_
    refine ex_last (dg dc322 7 rfl) (LOC.st (Nat.le_of_ble_eq_true rfl) rfl) rfl rfl hf (fun _ hf => ?_)
    refine ex_gen hf (fun M_4 hM_5 hf => ?_)
    refine ex_goto (t := 17) (dg dc322 8 rfl) rfl rfl ?_
    refine ex_pu (ls' := [vR 0, vI v1, vI v2, vR 181, vU]) (st' := [vI 0]) (dg dc322 12 rfl) rfl rfl ?_
    exact ex_ire (dg dc322 13 rfl) rfl hf
  · refine ex_bif hf (fun hb hf => ?_) (fun _ hf => ?_)
    · obtain rfl := bq hb
      refine ex_hnd (vs := [vR 0, vI v1, vI v2]) (st' := [vI 0, vR 181]) (ci := 15) (g := 13) (k0 := 4) (g2 := 15) (Or.inr (Or.inl ⟨rfl, (dg dc322 5 rfl)⟩)) rfl rfl (fun _ hR => RK.calO hR rfl (rk1 (LOC.st (Nat.le_of_ble_eq_true rfl) rfl) rfl)) ⟨by decide, by decide⟩ (by decide +kernel) (Or.inr ⟨(dg dc322 9 rfl), rfl⟩) (blt_ok rfl) (gh_stands_ok (Z := Z) (d := e9) (by omega)  he_1) ?_
      show EX Z _ 322 15 [vR 0, vI v1, vI v2, vR 181, vU] [] M_2 res
      refine ex_pu (ls' := [vR 0, vI v1, vI v2, vR 181, vU]) (st' := [vI 1]) (dg dc322 10 rfl) rfl rfl ?_
      exact ex_ire (dg dc322 11 rfl) rfl hf
    · cases hf
-- GlassHillLaw.plates
def il327 : List (Nat × Instr × Nat) := [(0, .aload_n 2, 1), (1, .iconst 0, 1), (2, .aload_n 0, 1), (3, .iload_n 1, 1), (4, .invokevirtual 98, 3), (7, .i2l, 1), (8, .lastore, 1), (9, .goto 6, 3), (12, .astore_n 3, 1), (13, .iconst 1, 1), (14, .ireturn, 1), (15, .iconst 0, 1), (16, .ireturn, 1)]
theorem dc327 : dcs (mC 327) il327 := dc_of (by decide +kernel)
def drv_plates (v1 : Int) (M : MM) : OR :=
  (bH (gh_plates v1 M) (fun z_3 M_2 => (bif inB 0 1 then (sM (mU M_2 181 0 (w32 z_3)) fun M_4 => some (rI 0, M_4)) else none)) fun c_6 M_2 => (bif Nat.beq c_6 13 then some (rI 1, M_2) else none))
set_option maxRecDepth 4000 in
theorem drv_plates_ok {Z : Nat × (Nat → Int)} {d : Nat} (hd : 5 ≤ d) {M : MM}  {v1 : Int} {res : AR × MM} (hf : drv_plates v1 M = some res) : EX Z d 327 0 (ent 327 [vR 0, vI v1, vR 181]) [] M res := by
  obtain ⟨e9, rfl⟩ : ∃ e9, d = e9 + 1 := ⟨d - 1, by omega⟩
  unfold drv_plates at hf
  show EX Z _ 327 0 [vR 0, vI v1, vR 181, vU] [] M res
  refine ex_pu (ls' := [vR 0, vI v1, vR 181, vU]) (st' := [vR 181]) (dg dc327 0 rfl) rfl rfl ?_
  refine ex_pu (ls' := [vR 0, vI v1, vR 181, vU]) (st' := [vI 0, vR 181]) (dg dc327 1 rfl) rfl rfl ?_
  refine ex_pu (ls' := [vR 0, vI v1, vR 181, vU]) (st' := [vR 0, vI 0, vR 181]) (dg dc327 2 rfl) rfl rfl ?_
  refine ex_pu (ls' := [vR 0, vI v1, vR 181, vU]) (st' := [vI v1, vR 0, vI 0, vR 181]) (dg dc327 3 rfl) rfl rfl ?_
  refine ex_cH (vs := [vR 0, vI v1]) (st' := [vI 0, vR 181]) (F := (gh_plates v1 M)) (Or.inr (Or.inl ⟨rfl, (dg dc327 4 rfl)⟩)) rfl rfl (rk1 (LOC.st (Nat.le_of_ble_eq_true rfl) rfl) rfl) (fun _ r9 => gh_plates_ok (Z := Z) (d := e9) (by omega)  r9) hf (fun z_3 M_2 he_1 hf => ?_) (fun c_6 M_2 he_1 hf => ?_)
  · refine ex_pu (ls' := [vR 0, vI v1, vR 181, vU]) (st' := [vJ (w32 z_3), vI 0, vR 181]) (dg dc327 5 rfl) rfl rfl ?_
    refine ex_last (dg dc327 6 rfl) (LOC.st (Nat.le_of_ble_eq_true rfl) rfl) rfl rfl hf (fun _ hf => ?_)
    refine ex_gen hf (fun M_4 hM_5 hf => ?_)
    refine ex_goto (t := 15) (dg dc327 7 rfl) rfl rfl ?_
    refine ex_pu (ls' := [vR 0, vI v1, vR 181, vU]) (st' := [vI 0]) (dg dc327 11 rfl) rfl rfl ?_
    exact ex_ire (dg dc327 12 rfl) rfl hf
  · refine ex_bif hf (fun hb hf => ?_) (fun _ hf => ?_)
    · obtain rfl := bq hb
      refine ex_hnd (vs := [vR 0, vI v1]) (st' := [vI 0, vR 181]) (ci := 13) (g := 12) (k0 := 3) (g2 := 13) (Or.inr (Or.inl ⟨rfl, (dg dc327 4 rfl)⟩)) rfl rfl (fun _ hR => RK.calO hR rfl (rk1 (LOC.st (Nat.le_of_ble_eq_true rfl) rfl) rfl)) ⟨by decide, by decide⟩ (by decide +kernel) (Or.inl ⟨3, rfl, (dg dc327 8 rfl), rfl⟩) (blt_ok rfl) (gh_plates_ok (Z := Z) (d := e9) (by omega)  he_1) ?_
      show EX Z _ 327 13 [vR 0, vI v1, vR 181, vU] [] M_2 res
      refine ex_pu (ls' := [vR 0, vI v1, vR 181, vU]) (st' := [vI 1]) (dg dc327 9 rfl) rfl rfl ?_
      exact ex_ire (dg dc327 10 rfl) rfl hf
    · cases hf
-- GlassHill$LawReader.readChoice
def il30 : List (Nat × Instr × Nat) := [(0, .aload_n 0, 1), (1, .iload_n 1, 1), (2, .invokevirtual 74, 3), (5, .iconst 0, 1), (6, .istore_n 2, 1), (7, .iload_n 2, 1), (8, .sipush 400, 3), (11, .if_icmp .ge 36, 3), (14, .aload_n 0, 1), (15, .getfield 9, 3), (18, .ldc 77, 2), (20, .invokevirtual 53, 3), (23, .ifCond .eq 24, 3), (26, .aload_n 0, 1), (27, .iload_n 1, 1), (28, .invokevirtual 74, 3), (31, .aload_n 0, 1), (32, .getfield 15, 3), (35, .sipush 1010, 3), (38, .invokevirtual 79, 3), (41, .iinc 2 1, 3), (44, .goto (-37), 3), (47, .return_, 1)]
theorem dc30 : dcs (mC 30) il30 := dc_of (by decide +kernel)
def lawr_readChoice_L7 (R : Int → MM → OR)  (v1 : Int) (K1 : MM → OR) : Nat → Int → MM → OR
  | 0, _, _ => none
  | n + 1, v2, M => (bif cmpB .ge v2 400 then (K1  M) else (bI (tape_tookWord 31 M) fun z_6 M_5 => (bif cmpB .eq z_6 0 then (K1  M_5) else (bV (lawr_readAll R v1 M_5) fun M_8 => (bV (law_append 43 1010 M_8) fun M_11 => (lawr_readChoice_L7 R v1 K1 n (v2 + 1) M_11))))))
set_option maxRecDepth 4000 in
theorem lawr_readChoice_L7_ok {Z : Nat × (Nat → Int)} {d : Nat} (hd : 6 ≤ d)  {E9 : Nat} (hE : E9 + 2 ≤ d) {R : Int → MM → OR} (hR : ∀ {e : Nat}, E9 ≤ e → ∀ {u0 : Int} {M : MM} {r : AR × MM}, R u0 M = some r → EX Z e 32 0 (ent 32 [vR 82, vI u0]) [] M r) {v1 : Int} {K1 : MM → OR} {res : AR × MM} (k1 : ∀ (M : MM) (j0 j1 j2 : AV), K1  M = some res → EX Z d 30 47 [j0, j1, j2] [] M res) : ∀ (n : Nat) (v2 : Int) (M : MM), lawr_readChoice_L7 R v1 K1 n v2 M = some res → EX Z d 30 7 [vR 82, vI v1, vI v2] [] M res := by
  obtain ⟨e9, rfl⟩ : ∃ e9, d = e9 + 1 := ⟨d - 1, by omega⟩
  intro n
  induction n with
  | zero =>
    intro v2 M hf
    unfold lawr_readChoice_L7 at hf
    cases hf
  | succ n ih =>
    intro v2 M hf
    unfold lawr_readChoice_L7 at hf
    refine ex_pu (ls' := [vR 82, vI v1, vI v2]) (st' := [vI v2]) (dg dc30 5 rfl) rfl rfl ?_
    refine ex_pu (ls' := [vR 82, vI v1, vI v2]) (st' := [vI 400, vI v2]) (dg dc30 6 rfl) rfl rfl ?_
    refine ex_icmp (t := 47) (dg dc30 7 rfl) rfl hf (fun _ hf => ?_) (fun _ hf => ?_)
    · exact k1  M _ _ _ hf
    · refine ex_pu (ls' := [vR 82, vI v1, vI v2]) (st' := [vR 82]) (dg dc30 8 rfl) rfl rfl ?_
      refine ex_getF (dg dc30 9 rfl) rfl (LOC.st (Nat.le_of_ble_eq_true rfl) rfl) rfl ?_
      refine ex_ldcT (dg dc30 10 rfl) rfl ?_
      refine ex_cI (vs := [vR 1, vR (E0 + 2 + 2 * 31)]) (st' := []) (F := (tape_tookWord 31 M)) (Or.inr (Or.inl ⟨rfl, (dg dc30 11 rfl)⟩)) rfl rfl (rk1 (LOC.st (Nat.le_of_ble_eq_true rfl) rfl) rfl) rfl (fun _ r9 => tape_tookWord_ok (Z := Z) (d := e9) (by omega) (by decide)  r9) hf (fun z_6 M_5 he_4 hf => ?_)
      refine ex_if (t := 47) (dg dc30 12 rfl) rfl hf (fun _ hf => ?_) (fun _ hf => ?_)
      · exact k1  M_5 _ _ _ hf
      · refine ex_pu (ls' := [vR 82, vI v1, vI v2]) (st' := [vR 82]) (dg dc30 13 rfl) rfl rfl ?_
        refine ex_pu (ls' := [vR 82, vI v1, vI v2]) (st' := [vI v1, vR 82]) (dg dc30 14 rfl) rfl rfl ?_
        refine ex_cV (vs := [vR 82, vI v1]) (st' := []) (F := (lawr_readAll R v1 M_5)) (Or.inr (Or.inl ⟨rfl, (dg dc30 15 rfl)⟩)) rfl rfl (rk1 (LOC.st (Nat.le_of_ble_eq_true rfl) rfl) rfl) rfl (fun _ r9 => lawr_readAll_ok (Z := Z) (d := e9) (by omega) (by omega) hR  r9) hf (fun M_8 he_7 hf => ?_)
        refine ex_pu (ls' := [vR 82, vI v1, vI v2]) (st' := [vR 82]) (dg dc30 16 rfl) rfl rfl ?_
        refine ex_getF (dg dc30 17 rfl) rfl (LOC.st (Nat.le_of_ble_eq_true rfl) rfl) rfl ?_
        refine ex_pu (ls' := [vR 82, vI v1, vI v2]) (st' := [vI 1010, vR 43]) (dg dc30 18 rfl) rfl rfl ?_
        refine ex_cV (vs := [vR 43, vI 1010]) (st' := []) (F := (law_append 43 1010 M_8)) (Or.inr (Or.inl ⟨rfl, (dg dc30 19 rfl)⟩)) rfl rfl (rk1 (LOC.st (Nat.le_of_ble_eq_true rfl) rfl) rfl) rfl (fun _ r9 => law_append_ok (Z := Z) (d := e9) (by omega) isLaw43  r9) hf (fun M_11 he_10 hf => ?_)
        refine ex_pu (ls' := [vR 82, vI v1, vI (v2 + 1)]) (st' := []) (dg dc30 20 rfl) rfl rfl ?_
        refine ex_goto (t := 7) (dg dc30 21 rfl) rfl rfl ?_
        exact ih (v2 + 1) M_11 hf
def lawr_readChoice (R : Int → MM → OR) (v1 : Int) (M : MM) : OR :=
  (bV (lawr_readAll R v1 M) fun M_2 => (lawr_readChoice_L7 R v1 (fun M_13 => some (rV, M_13)) FU 0 M_2))
set_option maxRecDepth 4000 in
theorem lawr_readChoice_ok {Z : Nat × (Nat → Int)} {d : Nat} (hd : 6 ≤ d) {E9 : Nat} (hE : E9 + 2 ≤ d) {R : Int → MM → OR} (hR : ∀ {e : Nat}, E9 ≤ e → ∀ {u0 : Int} {M : MM} {r : AR × MM}, R u0 M = some r → EX Z e 32 0 (ent 32 [vR 82, vI u0]) [] M r) {M : MM}  {v1 : Int} {res : AR × MM} (hf : lawr_readChoice R v1 M = some res) : EX Z d 30 0 (ent 30 [vR 82, vI v1]) [] M res := by
  obtain ⟨e9, rfl⟩ : ∃ e9, d = e9 + 1 := ⟨d - 1, by omega⟩
  unfold lawr_readChoice at hf
  show EX Z _ 30 0 [vR 82, vI v1, vU] [] M res
  refine ex_pu (ls' := [vR 82, vI v1, vU]) (st' := [vR 82]) (dg dc30 0 rfl) rfl rfl ?_
  refine ex_pu (ls' := [vR 82, vI v1, vU]) (st' := [vI v1, vR 82]) (dg dc30 1 rfl) rfl rfl ?_
  refine ex_cV (vs := [vR 82, vI v1]) (st' := []) (F := (lawr_readAll R v1 M)) (Or.inr (Or.inl ⟨rfl, (dg dc30 2 rfl)⟩)) rfl rfl (rk1 (LOC.st (Nat.le_of_ble_eq_true rfl) rfl) rfl) rfl (fun _ r9 => lawr_readAll_ok (Z := Z) (d := e9) (by omega) (by omega) hR  r9) hf (fun M_2 he_1 hf => ?_)
  refine ex_pu (ls' := [vR 82, vI v1, vU]) (st' := [vI 0]) (dg dc30 3 rfl) rfl rfl ?_
  refine ex_pu (ls' := [vR 82, vI v1, vI 0]) (st' := []) (dg dc30 4 rfl) rfl rfl ?_
  refine lawr_readChoice_L7_ok hd hE hR ?_ FU 0 M_2 hf
  · intro M_13 j0_14 j1_15 j2_16 hf
    exact ex_vre (dg dc30 22 rfl) rfl hf
-- GlassHill$LawReader.readSum
def il35 : List (Nat × Instr × Nat) := [(0, .aload_n 0, 1), (1, .invokevirtual 108, 3), (4, .iconst 0, 1), (5, .istore_n 1, 1), (6, .iload_n 1, 1), (7, .sipush 400, 3), (10, .if_icmp .ge 35, 3), (13, .aload_n 0, 1), (14, .getfield 9, 3), (17, .bipush 43, 2), (19, .invokevirtual 44, 3), (22, .ifCond .eq 23, 3), (25, .aload_n 0, 1), (26, .invokevirtual 108, 3), (29, .aload_n 0, 1), (30, .getfield 15, 3), (33, .sipush 1011, 3), (36, .invokevirtual 79, 3), (39, .iinc 1 1, 3), (42, .goto (-36), 3), (45, .return_, 1)]
theorem dc35 : dcs (mC 35) il35 := dc_of (by decide +kernel)
def lawr_readSum_L6  (K1 : MM → OR) : Nat → Int → MM → OR
  | 0, _, _ => none
  | n + 1, v1, M => (bif cmpB .ge v1 400 then (K1  M) else (bI (tape_tookMark 43 M) fun z_6 M_5 => (bif cmpB .eq z_6 0 then (K1  M_5) else (bV (lawr_readPart  M_5) fun M_8 => (bV (law_append 43 1011 M_8) fun M_11 => (lawr_readSum_L6  K1 n (v1 + 1) M_11))))))
set_option maxRecDepth 4000 in
theorem lawr_readSum_L6_ok {Z : Nat × (Nat → Int)} {d : Nat} (hd : 6 ≤ d)  {K1 : MM → OR} {res : AR × MM} (k1 : ∀ (M : MM) (j0 j1 : AV), K1  M = some res → EX Z d 35 45 [j0, j1] [] M res) : ∀ (n : Nat) (v1 : Int) (M : MM), lawr_readSum_L6  K1 n v1 M = some res → EX Z d 35 6 [vR 82, vI v1] [] M res := by
  obtain ⟨e9, rfl⟩ : ∃ e9, d = e9 + 1 := ⟨d - 1, by omega⟩
  intro n
  induction n with
  | zero =>
    intro v1 M hf
    unfold lawr_readSum_L6 at hf
    cases hf
  | succ n ih =>
    intro v1 M hf
    unfold lawr_readSum_L6 at hf
    refine ex_pu (ls' := [vR 82, vI v1]) (st' := [vI v1]) (dg dc35 4 rfl) rfl rfl ?_
    refine ex_pu (ls' := [vR 82, vI v1]) (st' := [vI 400, vI v1]) (dg dc35 5 rfl) rfl rfl ?_
    refine ex_icmp (t := 45) (dg dc35 6 rfl) rfl hf (fun _ hf => ?_) (fun _ hf => ?_)
    · exact k1  M _ _ hf
    · refine ex_pu (ls' := [vR 82, vI v1]) (st' := [vR 82]) (dg dc35 7 rfl) rfl rfl ?_
      refine ex_getF (dg dc35 8 rfl) rfl (LOC.st (Nat.le_of_ble_eq_true rfl) rfl) rfl ?_
      refine ex_pu (ls' := [vR 82, vI v1]) (st' := [vI 43, vR 1]) (dg dc35 9 rfl) rfl rfl ?_
      refine ex_cI (vs := [vR 1, vI 43]) (st' := []) (F := (tape_tookMark 43 M)) (Or.inr (Or.inl ⟨rfl, (dg dc35 10 rfl)⟩)) rfl rfl (rk1 (LOC.st (Nat.le_of_ble_eq_true rfl) rfl) rfl) rfl (fun _ r9 => tape_tookMark_ok (Z := Z) (d := e9) (by omega)  r9) hf (fun z_6 M_5 he_4 hf => ?_)
      refine ex_if (t := 45) (dg dc35 11 rfl) rfl hf (fun _ hf => ?_) (fun _ hf => ?_)
      · exact k1  M_5 _ _ hf
      · refine ex_pu (ls' := [vR 82, vI v1]) (st' := [vR 82]) (dg dc35 12 rfl) rfl rfl ?_
        refine ex_cV (vs := [vR 82]) (st' := []) (F := (lawr_readPart  M_5)) (Or.inr (Or.inl ⟨rfl, (dg dc35 13 rfl)⟩)) rfl rfl (rk1 (LOC.st (Nat.le_of_ble_eq_true rfl) rfl) rfl) rfl (fun _ r9 => lawr_readPart_ok (Z := Z) (d := e9) (by omega)  r9) hf (fun M_8 he_7 hf => ?_)
        refine ex_pu (ls' := [vR 82, vI v1]) (st' := [vR 82]) (dg dc35 14 rfl) rfl rfl ?_
        refine ex_getF (dg dc35 15 rfl) rfl (LOC.st (Nat.le_of_ble_eq_true rfl) rfl) rfl ?_
        refine ex_pu (ls' := [vR 82, vI v1]) (st' := [vI 1011, vR 43]) (dg dc35 16 rfl) rfl rfl ?_
        refine ex_cV (vs := [vR 43, vI 1011]) (st' := []) (F := (law_append 43 1011 M_8)) (Or.inr (Or.inl ⟨rfl, (dg dc35 17 rfl)⟩)) rfl rfl (rk1 (LOC.st (Nat.le_of_ble_eq_true rfl) rfl) rfl) rfl (fun _ r9 => law_append_ok (Z := Z) (d := e9) (by omega) isLaw43  r9) hf (fun M_11 he_10 hf => ?_)
        refine ex_pu (ls' := [vR 82, vI (v1 + 1)]) (st' := []) (dg dc35 18 rfl) rfl rfl ?_
        refine ex_goto (t := 6) (dg dc35 19 rfl) rfl rfl ?_
        exact ih (v1 + 1) M_11 hf
def lawr_readSum  (M : MM) : OR :=
  (bV (lawr_readPart  M) fun M_2 => (lawr_readSum_L6  (fun M_13 => some (rV, M_13)) FU 0 M_2))
set_option maxRecDepth 4000 in
theorem lawr_readSum_ok {Z : Nat × (Nat → Int)} {d : Nat} (hd : 6 ≤ d) {M : MM}  {res : AR × MM} (hf : lawr_readSum  M = some res) : EX Z d 35 0 (ent 35 [vR 82]) [] M res := by
  obtain ⟨e9, rfl⟩ : ∃ e9, d = e9 + 1 := ⟨d - 1, by omega⟩
  unfold lawr_readSum at hf
  show EX Z _ 35 0 [vR 82, vU] [] M res
  refine ex_pu (ls' := [vR 82, vU]) (st' := [vR 82]) (dg dc35 0 rfl) rfl rfl ?_
  refine ex_cV (vs := [vR 82]) (st' := []) (F := (lawr_readPart  M)) (Or.inr (Or.inl ⟨rfl, (dg dc35 1 rfl)⟩)) rfl rfl (rk1 (LOC.st (Nat.le_of_ble_eq_true rfl) rfl) rfl) rfl (fun _ r9 => lawr_readPart_ok (Z := Z) (d := e9) (by omega)  r9) hf (fun M_2 he_1 hf => ?_)
  refine ex_pu (ls' := [vR 82, vU]) (st' := [vI 0]) (dg dc35 2 rfl) rfl rfl ?_
  refine ex_pu (ls' := [vR 82, vI 0]) (st' := []) (dg dc35 3 rfl) rfl rfl ?_
  refine lawr_readSum_L6_ok hd  ?_ FU 0 M_2 hf
  · intro M_13 j0_14 j1_15 hf
    exact ex_vre (dg dc35 20 rfl) rfl hf
-- GlassHill$Search.addPays
def il58 : List (Nat × Instr × Nat) := [(0, .aload_n 0, 1), (1, .getfield 36, 3), (4, .aload_n 0, 1), (5, .getfield 69, 3), (8, .aload_n 0, 1), (9, .getfield 78, 3), (12, .invokevirtual 153, 3), (15, .ifCond .ne 4, 3), (18, .return_, 1), (19, .aload_n 0, 1), (20, .getfield 72, 3), (23, .aload_n 0, 1), (24, .getfield 30, 3), (27, .aload_n 0, 1), (28, .getfield 69, 3), (31, .iaload, 1), (32, .iand, 1), (33, .istore_n 3, 1), (34, .iconst 0, 1), (35, .istore 4, 2), (37, .iload 4, 2), (39, .bipush 10, 2), (41, .if_icmp .ge 30, 3), (44, .iload_n 3, 1), (45, .iload 4, 2), (47, .invokestatic 156, 3), (50, .iconst 1, 1), (51, .if_icmp .ne 14, 3), (54, .aload_n 0, 1), (55, .aload_n 0, 1), (56, .lload_n 1, 1), (57, .iload 4, 2), (59, .invokevirtual 159, 3), (62, .invokevirtual 55, 3), (65, .iinc 4 1, 3), (68, .goto (-31), 3), (71, .return_, 1)]
theorem dc58 : dcs (mC 58) il58 := dc_of (by decide +kernel)
def srch_addPays_L37 (q : Nat) (v1 v3 : Int) (K1 : MM → OR) : Nat → Int → MM → OR
  | 0, _, _ => none
  | n + 1, v4, M => (bif cmpB .ge v4 10 then (K1  M) else (bI (gh_bit v3 v4 M) fun z_7 M_6 => (bif cmpB .ne z_7 1 then (srch_addPays_L37 q v1 v3 K1 n (v4 + 1) M_6) else (bJ (srch_paid q v1 v4 M_6) fun z_11 M_10 => (bV (srch_add q z_11 M_10) fun M_14 => (srch_addPays_L37 q v1 v3 K1 n (v4 + 1) M_14))))))
set_option maxRecDepth 4000 in
theorem srch_addPays_L37_ok {Z : Nat × (Nat → Int)} {d : Nat} (hd : 3 ≤ d) {q : Nat} (h0 : q ≠ 0) {v1 v3 : Int} {K1 : MM → OR} {res : AR × MM} (k1 : ∀ (M : MM) (j0 j1 j2 j3 j4 : AV), M 0 17 = (q : Int) → K1  M = some res → EX Z d 58 71 [j0, j1, j2, j3, j4] [] M res) : ∀ (n : Nat) (v4 : Int) (M : MM), M 0 17 = (q : Int) → srch_addPays_L37 q v1 v3 K1 n v4 M = some res → EX Z d 58 37 [vR q, vJ v1, vU, vI v3, vI v4] [] M res := by
  obtain ⟨e9, rfl⟩ : ∃ e9, d = e9 + 1 := ⟨d - 1, by omega⟩
  have hq0 : (q : Int) ≠ 0 := by omega
  intro n
  induction n with
  | zero =>
    intro v4 M hq hf
    unfold srch_addPays_L37 at hf
    cases hf
  | succ n ih =>
    intro v4 M hq hf
    unfold srch_addPays_L37 at hf
    refine ex_pu (ls' := [vR q, vJ v1, vU, vI v3, vI v4]) (st' := [vI v4]) (dg dc58 20 rfl) rfl rfl ?_
    refine ex_pu (ls' := [vR q, vJ v1, vU, vI v3, vI v4]) (st' := [vI 10, vI v4]) (dg dc58 21 rfl) rfl rfl ?_
    refine ex_icmp (t := 71) (dg dc58 22 rfl) rfl hf (fun _ hf => ?_) (fun _ hf => ?_)
    · exact k1  M _ _ _ _ _ hq hf
    · refine ex_pu (ls' := [vR q, vJ v1, vU, vI v3, vI v4]) (st' := [vI v3]) (dg dc58 23 rfl) rfl rfl ?_
      refine ex_pu (ls' := [vR q, vJ v1, vU, vI v3, vI v4]) (st' := [vI v4, vI v3]) (dg dc58 24 rfl) rfl rfl ?_
      refine ex_cI (vs := [vI v3, vI v4]) (st' := []) (F := (gh_bit v3 v4 M)) (Or.inl ⟨rfl, (dg dc58 25 rfl)⟩) rfl rfl (Or.inl rfl) rfl (fun _ r9 => gh_bit_ok (Z := Z) (d := e9) (by omega)  r9) hf (fun z_7 M_6 he_5 hf => ?_)
      have hq_8 : M_6 0 17 = (q : Int) := ((gh_bit_ok (Z := Z) (d := e9) (by omega)  he_5).1 (by rw [hq]; exact hq0)).trans hq
      refine ex_pu (ls' := [vR q, vJ v1, vU, vI v3, vI v4]) (st' := [vI 1, vI z_7]) (dg dc58 26 rfl) rfl rfl ?_
      refine ex_icmp (t := 65) (dg dc58 27 rfl) rfl hf (fun _ hf => ?_) (fun _ hf => ?_)
      · refine ex_pu (ls' := [vR q, vJ v1, vU, vI v3, vI (v4 + 1)]) (st' := []) (dg dc58 34 rfl) rfl rfl ?_
        refine ex_goto (t := 37) (dg dc58 35 rfl) rfl rfl ?_
        exact ih (v4 + 1) M_6 hq_8 hf
      · refine ex_pu (ls' := [vR q, vJ v1, vU, vI v3, vI v4]) (st' := [vR q]) (dg dc58 28 rfl) rfl rfl ?_
        refine ex_pu (ls' := [vR q, vJ v1, vU, vI v3, vI v4]) (st' := [vR q, vR q]) (dg dc58 29 rfl) rfl rfl ?_
        refine ex_pu (ls' := [vR q, vJ v1, vU, vI v3, vI v4]) (st' := [vJ v1, vR q, vR q]) (dg dc58 30 rfl) rfl rfl ?_
        refine ex_pu (ls' := [vR q, vJ v1, vU, vI v3, vI v4]) (st' := [vI v4, vJ v1, vR q, vR q]) (dg dc58 31 rfl) rfl rfl ?_
        refine ex_cJ (vs := [vR q, vJ v1, vI v4]) (st' := [vR q]) (F := (srch_paid q v1 v4 M_6)) (Or.inr (Or.inl ⟨rfl, (dg dc58 32 rfl)⟩)) rfl rfl (rk1 (LOC.sr (j := 0) hq_8 h0 (by decide) rfl) rfl) rfl (fun _ r9 => srch_paid_ok (Z := Z) (d := e9) (by omega) hq_8 h0  r9) hf (fun z_11 M_10 he_9 hf => ?_)
        have hq_12 : M_10 0 17 = (q : Int) := ((srch_paid_ok (Z := Z) (d := e9) (by omega) hq_8 h0  he_9).1 (by rw [hq_8]; exact hq0)).trans hq_8
        refine ex_cV (vs := [vR q, vJ z_11]) (st' := []) (F := (srch_add q z_11 M_10)) (Or.inr (Or.inl ⟨rfl, (dg dc58 33 rfl)⟩)) rfl rfl (rk1 (LOC.sr (j := 0) hq_12 h0 (by decide) rfl) rfl) rfl (fun _ r9 => srch_add_ok (Z := Z) (d := e9) (by omega) hq_12 h0  r9) hf (fun M_14 he_13 hf => ?_)
        have hq_16 : M_14 0 17 = (q : Int) := ((srch_add_ok (Z := Z) (d := e9) (by omega) hq_12 h0  he_13).1 (by rw [hq_12]; exact hq0)).trans hq_12
        refine ex_pu (ls' := [vR q, vJ v1, vU, vI v3, vI (v4 + 1)]) (st' := []) (dg dc58 34 rfl) rfl rfl ?_
        refine ex_goto (t := 37) (dg dc58 35 rfl) rfl rfl ?_
        exact ih (v4 + 1) M_14 hq_16 hf
def srch_addPays (q : Nat) (v1 : Int) (M : MM) : OR :=
  (bI (land_isHeldBy 3 (M 1000 11) (M 1000 13) M) fun z_3 M_2 => (bif cmpB .ne z_3 0 then (bif inB (M_2 1000 11) 17 then (srch_addPays_L37 q v1 (iAnd (M_2 1000 12) (M_2 1003 ((M_2 1000 11)).toNat)) (fun M_17 => some (rV, M_17)) FU 0 M_2) else none) else some (rV, M_2)))
set_option maxRecDepth 4000 in
theorem srch_addPays_ok {Z : Nat × (Nat → Int)} {d : Nat} (hd : 3 ≤ d) {M : MM} {q : Nat} (hq : M 0 17 = (q : Int)) (h0 : q ≠ 0) {v1 : Int} {res : AR × MM} (hf : srch_addPays q v1 M = some res) : EX Z d 58 0 (ent 58 [vR q, vJ v1]) [] M res := by
  obtain ⟨e9, rfl⟩ : ∃ e9, d = e9 + 1 := ⟨d - 1, by omega⟩
  have hq0 : (q : Int) ≠ 0 := by omega
  unfold srch_addPays at hf
  show EX Z _ 58 0 [vR q, vJ v1, vU, vU, vU] [] M res
  refine ex_pu (ls' := [vR q, vJ v1, vU, vU, vU]) (st' := [vR q]) (dg dc58 0 rfl) rfl rfl ?_
  refine ex_getF (dg dc58 1 rfl) rfl (LOC.sr (j := 0) hq h0 (by decide) rfl) rfl ?_
  refine ex_pu (ls' := [vR q, vJ v1, vU, vU, vU]) (st' := [vR q, vR 3]) (dg dc58 2 rfl) rfl rfl ?_
  refine ex_getI (dg dc58 3 rfl) rfl (LOC.sr (j := 0) hq h0 (by decide) rfl) rfl ?_
  refine ex_pu (ls' := [vR q, vJ v1, vU, vU, vU]) (st' := [vR q, vI (M 1000 11), vR 3]) (dg dc58 4 rfl) rfl rfl ?_
  refine ex_getI (dg dc58 5 rfl) rfl (LOC.sr (j := 0) hq h0 (by decide) rfl) rfl ?_
  refine ex_cI (vs := [vR 3, vI (M 1000 11), vI (M 1000 13)]) (st' := []) (F := (land_isHeldBy 3 (M 1000 11) (M 1000 13) M)) (Or.inr (Or.inl ⟨rfl, (dg dc58 6 rfl)⟩)) rfl rfl (rk1 (LOC.st (Nat.le_of_ble_eq_true rfl) rfl) rfl) rfl (fun _ r9 => land_isHeldBy_ok (Z := Z) (d := e9) (by omega) isLand3  r9) hf (fun z_3 M_2 he_1 hf => ?_)
  have hq_4 : M_2 0 17 = (q : Int) := ((land_isHeldBy_ok (Z := Z) (d := e9) (by omega) isLand3  he_1).1 (by rw [hq]; exact hq0)).trans hq
  refine ex_if (t := 19) (dg dc58 7 rfl) rfl hf (fun _ hf => ?_) (fun _ hf => ?_)
  · refine ex_pu (ls' := [vR q, vJ v1, vU, vU, vU]) (st' := [vR q]) (dg dc58 9 rfl) rfl rfl ?_
    refine ex_getI (dg dc58 10 rfl) rfl (LOC.sr (j := 0) hq_4 h0 (by decide) rfl) rfl ?_
    refine ex_pu (ls' := [vR q, vJ v1, vU, vU, vU]) (st' := [vR q, vI (M_2 1000 12)]) (dg dc58 11 rfl) rfl rfl ?_
    refine ex_getO (dg dc58 12 rfl) rfl (LOC.sr (j := 0) hq_4 h0 (by decide) rfl) rfl ?_
    show EX Z _ 58 _ [vR q, vJ v1, vU, vU, vU] [vR (q + 3), vI (M_2 1000 12)] _ _
    refine ex_pu (ls' := [vR q, vJ v1, vU, vU, vU]) (st' := [vR q, vR (q + 3), vI (M_2 1000 12)]) (dg dc58 13 rfl) rfl rfl ?_
    refine ex_getI (dg dc58 14 rfl) rfl (LOC.sr (j := 0) hq_4 h0 (by decide) rfl) rfl ?_
    refine ex_iald (dg dc58 15 rfl) (LOC.sr (j := 3) hq_4 h0 (by decide) rfl) rfl hf (fun _ hf => ?_)
    refine ex_pu (ls' := [vR q, vJ v1, vU, vU, vU]) (st' := [vI (iAnd (M_2 1000 12) (M_2 1003 ((M_2 1000 11)).toNat))]) (dg dc58 16 rfl) rfl rfl ?_
    refine ex_pu (ls' := [vR q, vJ v1, vU, vI (iAnd (M_2 1000 12) (M_2 1003 ((M_2 1000 11)).toNat)), vU]) (st' := []) (dg dc58 17 rfl) rfl rfl ?_
    refine ex_pu (ls' := [vR q, vJ v1, vU, vI (iAnd (M_2 1000 12) (M_2 1003 ((M_2 1000 11)).toNat)), vU]) (st' := [vI 0]) (dg dc58 18 rfl) rfl rfl ?_
    refine ex_pu (ls' := [vR q, vJ v1, vU, vI (iAnd (M_2 1000 12) (M_2 1003 ((M_2 1000 11)).toNat)), vI 0]) (st' := []) (dg dc58 19 rfl) rfl rfl ?_
    refine srch_addPays_L37_ok hd h0 ?_ FU 0 M_2 hq_4 hf
    · intro M_17 j0_19 j1_20 j2_21 j3_22 j4_23 hq_18 hf
      exact ex_vre (dg dc58 36 rfl) rfl hf
  · exact ex_vre (dg dc58 8 rfl) rfl hf
-- GlassHill$TaleReader.readThing
def il78 : List (Nat × Instr × Nat) := [(0, .aload_n 0, 1), (1, .invokevirtual 87, 3), (4, .istore_n 1, 1), (5, .aload_n 0, 1), (6, .getfield 9, 3), (9, .ldc 91, 2), (11, .invokevirtual 93, 3), (14, .aload_n 0, 1), (15, .invokevirtual 97, 3), (18, .istore_n 2, 1), (19, .iload_n 1, 1), (20, .iconst (-1), 1), (21, .if_icmp .eq 13, 3), (24, .aload_n 0, 1), (25, .getfield 19, 3), (28, .getfield 100, 3), (31, .iload_n 1, 1), (32, .iload_n 2, 1), (33, .iastore, 1), (34, .return_, 1)]
theorem dc78 : dcs (mC 78) il78 := dc_of (by decide +kernel)
def tale_readThing  (M : MM) : OR :=
  (bI (tale_readNewThing  M) fun z_3 M_2 => (bV (tape_needWord 3 M_2) fun M_5 => (bI (tale_readPlaceNumber  M_5) fun z_9 M_8 => (bif cmpB .eq z_3 (-1) then some (rV, M_8) else (bif inB z_3 10 then (sM (mU M_8 50 (z_3).toNat z_9) fun M_10 => some (rV, M_10)) else none)))))
set_option maxRecDepth 4000 in
theorem tale_readThing_ok {Z : Nat × (Nat → Int)} {d : Nat} (hd : 7 ≤ d) {M : MM}  {res : AR × MM} (hf : tale_readThing  M = some res) : EX Z d 78 0 (ent 78 [vR 81]) [] M res := by
  obtain ⟨e9, rfl⟩ : ∃ e9, d = e9 + 1 := ⟨d - 1, by omega⟩
  unfold tale_readThing at hf
  show EX Z _ 78 0 [vR 81, vU, vU] [] M res
  refine ex_pu (ls' := [vR 81, vU, vU]) (st' := [vR 81]) (dg dc78 0 rfl) rfl rfl ?_
  refine ex_cI (vs := [vR 81]) (st' := []) (F := (tale_readNewThing  M)) (Or.inr (Or.inl ⟨rfl, (dg dc78 1 rfl)⟩)) rfl rfl (rk1 (LOC.st (Nat.le_of_ble_eq_true rfl) rfl) rfl) rfl (fun _ r9 => tale_readNewThing_ok (Z := Z) (d := e9) (by omega)  r9) hf (fun z_3 M_2 he_1 hf => ?_)
  refine ex_pu (ls' := [vR 81, vI z_3, vU]) (st' := []) (dg dc78 2 rfl) rfl rfl ?_
  refine ex_pu (ls' := [vR 81, vI z_3, vU]) (st' := [vR 81]) (dg dc78 3 rfl) rfl rfl ?_
  refine ex_getF (dg dc78 4 rfl) rfl (LOC.st (Nat.le_of_ble_eq_true rfl) rfl) rfl ?_
  refine ex_ldcT (dg dc78 5 rfl) rfl ?_
  refine ex_cV (vs := [vR 1, vR (E0 + 2 + 2 * 3)]) (st' := []) (F := (tape_needWord 3 M_2)) (Or.inr (Or.inl ⟨rfl, (dg dc78 6 rfl)⟩)) rfl rfl (rk1 (LOC.st (Nat.le_of_ble_eq_true rfl) rfl) rfl) rfl (fun _ r9 => tape_needWord_ok (Z := Z) (d := e9) (by omega) (by decide)  r9) hf (fun M_5 he_4 hf => ?_)
  refine ex_pu (ls' := [vR 81, vI z_3, vU]) (st' := [vR 81]) (dg dc78 7 rfl) rfl rfl ?_
  refine ex_cI (vs := [vR 81]) (st' := []) (F := (tale_readPlaceNumber  M_5)) (Or.inr (Or.inl ⟨rfl, (dg dc78 8 rfl)⟩)) rfl rfl (rk1 (LOC.st (Nat.le_of_ble_eq_true rfl) rfl) rfl) rfl (fun _ r9 => tale_readPlaceNumber_ok (Z := Z) (d := e9) (by omega)  r9) hf (fun z_9 M_8 he_7 hf => ?_)
  refine ex_pu (ls' := [vR 81, vI z_3, vI z_9]) (st' := []) (dg dc78 9 rfl) rfl rfl ?_
  refine ex_pu (ls' := [vR 81, vI z_3, vI z_9]) (st' := [vI z_3]) (dg dc78 10 rfl) rfl rfl ?_
  refine ex_pu (ls' := [vR 81, vI z_3, vI z_9]) (st' := [vI (-1), vI z_3]) (dg dc78 11 rfl) rfl rfl ?_
  refine ex_icmp (t := 34) (dg dc78 12 rfl) rfl hf (fun _ hf => ?_) (fun _ hf => ?_)
  · exact ex_vre (dg dc78 19 rfl) rfl hf
  · refine ex_pu (ls' := [vR 81, vI z_3, vI z_9]) (st' := [vR 81]) (dg dc78 13 rfl) rfl rfl ?_
    refine ex_getF (dg dc78 14 rfl) rfl (LOC.st (Nat.le_of_ble_eq_true rfl) rfl) rfl ?_
    refine ex_getO (dg dc78 15 rfl) rfl (LOC.st (Nat.le_of_ble_eq_true rfl) rfl) rfl ?_
    show EX Z _ 78 _ [vR 81, vI z_3, vI z_9] [vR 50] _ _
    refine ex_pu (ls' := [vR 81, vI z_3, vI z_9]) (st' := [vI z_3, vR 50]) (dg dc78 16 rfl) rfl rfl ?_
    refine ex_pu (ls' := [vR 81, vI z_3, vI z_9]) (st' := [vI z_9, vI z_3, vR 50]) (dg dc78 17 rfl) rfl rfl ?_
    refine ex_iast (dg dc78 18 rfl) (LOC.st (Nat.le_of_ble_eq_true rfl) rfl) rfl rfl hf (fun _ hf => ?_)
    refine ex_gen hf (fun M_10 hM_11 hf => ?_)
    exact ex_vre (dg dc78 19 rfl) rfl hf
-- GlassHill$TaleReader.readRoad
def il79 : List (Nat × Instr × Nat) := [(0, .aload_n 0, 1), (1, .getfield 15, 3), (4, .getfield 106, 3), (7, .bipush 16, 2), (9, .if_icmp .lt 18, 3), (12, .aload_n 0, 1), (13, .getfield 9, 3), (16, .aload_n 0, 1), (17, .getfield 9, 3), (20, .getfield 80, 3), (23, .invokevirtual 83, 3), (26, .return_, 1), (27, .aload_n 0, 1), (28, .getfield 15, 3), (31, .getfield 106, 3), (34, .istore_n 1, 1), (35, .aload_n 0, 1), (36, .invokevirtual 97, 3), (39, .istore_n 2, 1), (40, .aload_n 0, 1), (41, .invokevirtual 97, 3), (44, .istore_n 3, 1), (45, .iload_n 2, 1), (46, .iload_n 3, 1), (47, .if_icmp .ne 17, 3), (50, .aload_n 0, 1), (51, .getfield 9, 3), (54, .aload_n 0, 1), (55, .getfield 9, 3), (58, .getfield 80, 3), (61, .invokevirtual 83, 3), (64, .aload_n 0, 1), (65, .getfield 9, 3), (68, .ldc 109, 2), (70, .invokevirtual 93, 3), (73, .aload_n 0, 1), (74, .getfield 15, 3), (77, .getfield 111, 3), (80, .iconst 2, 1), (81, .iload_n 1, 1), (82, .imul, 1), (83, .iload_n 2, 1), (84, .iastore, 1), (85, .aload_n 0, 1), (86, .getfield 15, 3), (89, .getfield 111, 3), (92, .iconst 2, 1), (93, .iload_n 1, 1), (94, .imul, 1), (95, .iconst 1, 1), (96, .iadd, 1), (97, .iload_n 3, 1), (98, .iastore, 1), (99, .aload_n 0, 1), (100, .getfield 15, 3), (103, .getfield 114, 3), (106, .iload_n 1, 1), (107, .aload_n 0, 1), (108, .getfield 9, 3), (111, .iconst 1, 1), (112, .bipush 9, 2), (114, .invokevirtual 117, 3), (117, .iastore, 1), (118, .aload_n 0, 1), (119, .getfield 15, 3), (122, .getfield 121, 3), (125, .iload_n 1, 1), (126, .aload_n 0, 1), (127, .getfield 9, 3), (130, .ldc 124, 2), (132, .invokevirtual 47, 3), (135, .ifCond .eq 16, 3), (138, .aload_n 0, 1), (139, .getfield 9, 3), (142, .iconst 1, 1), (143, .bipush 100, 2), (145, .invokevirtual 117, 3), (148, .goto 5, 3), (151, .bipush 100, 2), (153, .iastore, 1), (154, .aload_n 0, 1), (155, .getfield 15, 3), (158, .dup, 1), (159, .getfield 106, 3), (162, .iconst 1, 1), (163, .iadd, 1), (164, .putfield 106, 3), (167, .return_, 1)]
theorem dc79 : dcs (mC 79) il79 := dc_of (by decide +kernel)
def tale_readRoad_J64   (v1 v2 v3 : Int) (M : MM) : OR :=
  (bV (tape_needWord 5 M) fun M_8 => (bif inB (2 * v1) 32 then (sM (mU M_8 37 ((2 * v1)).toNat v2) fun M_10 => (bif inB ((2 * v1) + 1) 32 then (sM (mU M_10 37 (((2 * v1) + 1)).toNat v3) fun M_12 => (bI (tape_needNumber 1 9 M_12) fun z_16 M_15 => (bif inB v1 16 then (sM (mU M_15 38 (v1).toNat z_16) fun M_17 => (bI (tape_tookWord 6 M_17) fun z_21 M_20 => (bif cmpB .eq z_21 0 then (bif inB v1 16 then (sM (mU M_20 39 (v1).toNat 100) fun M_22 => (sM (mU M_22 29 2 ((M_22 29 2) + 1)) fun M_24 => some (rV, M_24))) else none) else (bI (tape_needNumber 1 100 M_20) fun z_28 M_27 => (bif inB v1 16 then (sM (mU M_27 39 (v1).toNat z_28) fun M_29 => (sM (mU M_29 29 2 ((M_29 29 2) + 1)) fun M_31 => some (rV, M_31))) else none))))) else none))) else none)) else none))
set_option maxRecDepth 4000 in
theorem tale_readRoad_J64_ok {Z : Nat × (Nat → Int)} {d : Nat} (hd : 6 ≤ d)   {res : AR × MM}  : ∀ (v1 v2 v3 : Int) (M : MM), tale_readRoad_J64   v1 v2 v3 M = some res → EX Z d 79 64 [vR 81, vI v1, vI v2, vI v3] [] M res := by
  obtain ⟨e9, rfl⟩ : ∃ e9, d = e9 + 1 := ⟨d - 1, by omega⟩
  intro v1 v2 v3 M hf
  unfold tale_readRoad_J64 at hf
  refine ex_pu (ls' := [vR 81, vI v1, vI v2, vI v3]) (st' := [vR 81]) (dg dc79 31 rfl) rfl rfl ?_
  refine ex_getF (dg dc79 32 rfl) rfl (LOC.st (Nat.le_of_ble_eq_true rfl) rfl) rfl ?_
  refine ex_ldcT (dg dc79 33 rfl) rfl ?_
  refine ex_cV (vs := [vR 1, vR (E0 + 2 + 2 * 5)]) (st' := []) (F := (tape_needWord 5 M)) (Or.inr (Or.inl ⟨rfl, (dg dc79 34 rfl)⟩)) rfl rfl (rk1 (LOC.st (Nat.le_of_ble_eq_true rfl) rfl) rfl) rfl (fun _ r9 => tape_needWord_ok (Z := Z) (d := e9) (by omega) (by decide)  r9) hf (fun M_8 he_7 hf => ?_)
  refine ex_pu (ls' := [vR 81, vI v1, vI v2, vI v3]) (st' := [vR 81]) (dg dc79 35 rfl) rfl rfl ?_
  refine ex_getF (dg dc79 36 rfl) rfl (LOC.st (Nat.le_of_ble_eq_true rfl) rfl) rfl ?_
  refine ex_getO (dg dc79 37 rfl) rfl (LOC.st (Nat.le_of_ble_eq_true rfl) rfl) rfl ?_
  show EX Z _ 79 _ [vR 81, vI v1, vI v2, vI v3] [vR 37] _ _
  refine ex_pu (ls' := [vR 81, vI v1, vI v2, vI v3]) (st' := [vI 2, vR 37]) (dg dc79 38 rfl) rfl rfl ?_
  refine ex_pu (ls' := [vR 81, vI v1, vI v2, vI v3]) (st' := [vI v1, vI 2, vR 37]) (dg dc79 39 rfl) rfl rfl ?_
  refine ex_pu (ls' := [vR 81, vI v1, vI v2, vI v3]) (st' := [vI (2 * v1), vR 37]) (dg dc79 40 rfl) rfl rfl ?_
  refine ex_pu (ls' := [vR 81, vI v1, vI v2, vI v3]) (st' := [vI v2, vI (2 * v1), vR 37]) (dg dc79 41 rfl) rfl rfl ?_
  refine ex_iast (dg dc79 42 rfl) (LOC.st (Nat.le_of_ble_eq_true rfl) rfl) rfl rfl hf (fun _ hf => ?_)
  refine ex_gen hf (fun M_10 hM_11 hf => ?_)
  refine ex_pu (ls' := [vR 81, vI v1, vI v2, vI v3]) (st' := [vR 81]) (dg dc79 43 rfl) rfl rfl ?_
  refine ex_getF (dg dc79 44 rfl) rfl (LOC.st (Nat.le_of_ble_eq_true rfl) rfl) rfl ?_
  refine ex_getO (dg dc79 45 rfl) rfl (LOC.st (Nat.le_of_ble_eq_true rfl) rfl) rfl ?_
  show EX Z _ 79 _ [vR 81, vI v1, vI v2, vI v3] [vR 37] _ _
  refine ex_pu (ls' := [vR 81, vI v1, vI v2, vI v3]) (st' := [vI 2, vR 37]) (dg dc79 46 rfl) rfl rfl ?_
  refine ex_pu (ls' := [vR 81, vI v1, vI v2, vI v3]) (st' := [vI v1, vI 2, vR 37]) (dg dc79 47 rfl) rfl rfl ?_
  refine ex_pu (ls' := [vR 81, vI v1, vI v2, vI v3]) (st' := [vI (2 * v1), vR 37]) (dg dc79 48 rfl) rfl rfl ?_
  refine ex_pu (ls' := [vR 81, vI v1, vI v2, vI v3]) (st' := [vI 1, vI (2 * v1), vR 37]) (dg dc79 49 rfl) rfl rfl ?_
  refine ex_pu (ls' := [vR 81, vI v1, vI v2, vI v3]) (st' := [vI ((2 * v1) + 1), vR 37]) (dg dc79 50 rfl) rfl rfl ?_
  refine ex_pu (ls' := [vR 81, vI v1, vI v2, vI v3]) (st' := [vI v3, vI ((2 * v1) + 1), vR 37]) (dg dc79 51 rfl) rfl rfl ?_
  refine ex_iast (dg dc79 52 rfl) (LOC.st (Nat.le_of_ble_eq_true rfl) rfl) rfl rfl hf (fun _ hf => ?_)
  refine ex_gen hf (fun M_12 hM_13 hf => ?_)
  refine ex_pu (ls' := [vR 81, vI v1, vI v2, vI v3]) (st' := [vR 81]) (dg dc79 53 rfl) rfl rfl ?_
  refine ex_getF (dg dc79 54 rfl) rfl (LOC.st (Nat.le_of_ble_eq_true rfl) rfl) rfl ?_
  refine ex_getO (dg dc79 55 rfl) rfl (LOC.st (Nat.le_of_ble_eq_true rfl) rfl) rfl ?_
  show EX Z _ 79 _ [vR 81, vI v1, vI v2, vI v3] [vR 38] _ _
  refine ex_pu (ls' := [vR 81, vI v1, vI v2, vI v3]) (st' := [vI v1, vR 38]) (dg dc79 56 rfl) rfl rfl ?_
  refine ex_pu (ls' := [vR 81, vI v1, vI v2, vI v3]) (st' := [vR 81, vI v1, vR 38]) (dg dc79 57 rfl) rfl rfl ?_
  refine ex_getF (dg dc79 58 rfl) rfl (LOC.st (Nat.le_of_ble_eq_true rfl) rfl) rfl ?_
  refine ex_pu (ls' := [vR 81, vI v1, vI v2, vI v3]) (st' := [vI 1, vR 1, vI v1, vR 38]) (dg dc79 59 rfl) rfl rfl ?_
  refine ex_pu (ls' := [vR 81, vI v1, vI v2, vI v3]) (st' := [vI 9, vI 1, vR 1, vI v1, vR 38]) (dg dc79 60 rfl) rfl rfl ?_
  refine ex_cI (vs := [vR 1, vI 1, vI 9]) (st' := [vI v1, vR 38]) (F := (tape_needNumber 1 9 M_12)) (Or.inr (Or.inl ⟨rfl, (dg dc79 61 rfl)⟩)) rfl rfl (rk1 (LOC.st (Nat.le_of_ble_eq_true rfl) rfl) rfl) rfl (fun _ r9 => tape_needNumber_ok (Z := Z) (d := e9) (by omega)  r9) hf (fun z_16 M_15 he_14 hf => ?_)
  refine ex_iast (dg dc79 62 rfl) (LOC.st (Nat.le_of_ble_eq_true rfl) rfl) rfl rfl hf (fun _ hf => ?_)
  refine ex_gen hf (fun M_17 hM_18 hf => ?_)
  refine ex_pu (ls' := [vR 81, vI v1, vI v2, vI v3]) (st' := [vR 81]) (dg dc79 63 rfl) rfl rfl ?_
  refine ex_getF (dg dc79 64 rfl) rfl (LOC.st (Nat.le_of_ble_eq_true rfl) rfl) rfl ?_
  refine ex_getO (dg dc79 65 rfl) rfl (LOC.st (Nat.le_of_ble_eq_true rfl) rfl) rfl ?_
  show EX Z _ 79 _ [vR 81, vI v1, vI v2, vI v3] [vR 39] _ _
  refine ex_pu (ls' := [vR 81, vI v1, vI v2, vI v3]) (st' := [vI v1, vR 39]) (dg dc79 66 rfl) rfl rfl ?_
  refine ex_pu (ls' := [vR 81, vI v1, vI v2, vI v3]) (st' := [vR 81, vI v1, vR 39]) (dg dc79 67 rfl) rfl rfl ?_
  refine ex_getF (dg dc79 68 rfl) rfl (LOC.st (Nat.le_of_ble_eq_true rfl) rfl) rfl ?_
  refine ex_ldcT (dg dc79 69 rfl) rfl ?_
  refine ex_cI (vs := [vR 1, vR (E0 + 2 + 2 * 6)]) (st' := [vI v1, vR 39]) (F := (tape_tookWord 6 M_17)) (Or.inr (Or.inl ⟨rfl, (dg dc79 70 rfl)⟩)) rfl rfl (rk1 (LOC.st (Nat.le_of_ble_eq_true rfl) rfl) rfl) rfl (fun _ r9 => tape_tookWord_ok (Z := Z) (d := e9) (by omega) (by decide)  r9) hf (fun z_21 M_20 he_19 hf => ?_)
  refine ex_if (t := 151) (dg dc79 71 rfl) rfl hf (fun _ hf => ?_) (fun _ hf => ?_)
  · refine ex_pu (ls' := [vR 81, vI v1, vI v2, vI v3]) (st' := [vI 100, vI v1, vR 39]) (dg dc79 78 rfl) rfl rfl ?_
    refine ex_iast (dg dc79 79 rfl) (LOC.st (Nat.le_of_ble_eq_true rfl) rfl) rfl rfl hf (fun _ hf => ?_)
    refine ex_gen hf (fun M_22 hM_23 hf => ?_)
    refine ex_pu (ls' := [vR 81, vI v1, vI v2, vI v3]) (st' := [vR 81]) (dg dc79 80 rfl) rfl rfl ?_
    refine ex_getF (dg dc79 81 rfl) rfl (LOC.st (Nat.le_of_ble_eq_true rfl) rfl) rfl ?_
    refine ex_pu (ls' := [vR 81, vI v1, vI v2, vI v3]) (st' := [vR 29, vR 29]) (dg dc79 82 rfl) rfl rfl ?_
    refine ex_getI (dg dc79 83 rfl) rfl (LOC.st (Nat.le_of_ble_eq_true rfl) rfl) rfl ?_
    refine ex_pu (ls' := [vR 81, vI v1, vI v2, vI v3]) (st' := [vI 1, vI (M_22 29 2), vR 29]) (dg dc79 84 rfl) rfl rfl ?_
    refine ex_pu (ls' := [vR 81, vI v1, vI v2, vI v3]) (st' := [vI ((M_22 29 2) + 1), vR 29]) (dg dc79 85 rfl) rfl rfl ?_
    refine ex_putI (dg dc79 86 rfl) rfl (LOC.st (Nat.le_of_ble_eq_true rfl) rfl) rfl rfl rfl ?_
    refine ex_gen hf (fun M_24 hM_25 hf => ?_)
    exact ex_vre (dg dc79 87 rfl) rfl hf
  · refine ex_pu (ls' := [vR 81, vI v1, vI v2, vI v3]) (st' := [vR 81, vI v1, vR 39]) (dg dc79 72 rfl) rfl rfl ?_
    refine ex_getF (dg dc79 73 rfl) rfl (LOC.st (Nat.le_of_ble_eq_true rfl) rfl) rfl ?_
    refine ex_pu (ls' := [vR 81, vI v1, vI v2, vI v3]) (st' := [vI 1, vR 1, vI v1, vR 39]) (dg dc79 74 rfl) rfl rfl ?_
    refine ex_pu (ls' := [vR 81, vI v1, vI v2, vI v3]) (st' := [vI 100, vI 1, vR 1, vI v1, vR 39]) (dg dc79 75 rfl) rfl rfl ?_
    refine ex_cI (vs := [vR 1, vI 1, vI 100]) (st' := [vI v1, vR 39]) (F := (tape_needNumber 1 100 M_20)) (Or.inr (Or.inl ⟨rfl, (dg dc79 76 rfl)⟩)) rfl rfl (rk1 (LOC.st (Nat.le_of_ble_eq_true rfl) rfl) rfl) rfl (fun _ r9 => tape_needNumber_ok (Z := Z) (d := e9) (by omega)  r9) hf (fun z_28 M_27 he_26 hf => ?_)
    refine ex_goto (t := 153) (dg dc79 77 rfl) rfl rfl ?_
    refine ex_iast (dg dc79 79 rfl) (LOC.st (Nat.le_of_ble_eq_true rfl) rfl) rfl rfl hf (fun _ hf => ?_)
    refine ex_gen hf (fun M_29 hM_30 hf => ?_)
    refine ex_pu (ls' := [vR 81, vI v1, vI v2, vI v3]) (st' := [vR 81]) (dg dc79 80 rfl) rfl rfl ?_
    refine ex_getF (dg dc79 81 rfl) rfl (LOC.st (Nat.le_of_ble_eq_true rfl) rfl) rfl ?_
    refine ex_pu (ls' := [vR 81, vI v1, vI v2, vI v3]) (st' := [vR 29, vR 29]) (dg dc79 82 rfl) rfl rfl ?_
    refine ex_getI (dg dc79 83 rfl) rfl (LOC.st (Nat.le_of_ble_eq_true rfl) rfl) rfl ?_
    refine ex_pu (ls' := [vR 81, vI v1, vI v2, vI v3]) (st' := [vI 1, vI (M_29 29 2), vR 29]) (dg dc79 84 rfl) rfl rfl ?_
    refine ex_pu (ls' := [vR 81, vI v1, vI v2, vI v3]) (st' := [vI ((M_29 29 2) + 1), vR 29]) (dg dc79 85 rfl) rfl rfl ?_
    refine ex_putI (dg dc79 86 rfl) rfl (LOC.st (Nat.le_of_ble_eq_true rfl) rfl) rfl rfl rfl ?_
    refine ex_gen hf (fun M_31 hM_32 hf => ?_)
    exact ex_vre (dg dc79 87 rfl) rfl hf
def tale_readRoad  (M : MM) : OR :=
  (bif cmpB .lt (M 29 2) 16 then (bI (tale_readPlaceNumber  M) fun z_3 M_2 => (bI (tale_readPlaceNumber  M_2) fun z_6 M_5 => (bif cmpB .ne z_3 z_6 then (tale_readRoad_J64   (M 29 2) z_3 z_6 M_5) else (bV (tape_failAt (M_5 1 3) M_5) fun M_34 => (tale_readRoad_J64   (M 29 2) z_3 z_6 M_34))))) else (bV (tape_failAt (M 1 3) M) fun M_37 => some (rV, M_37)))
set_option maxRecDepth 4000 in
theorem tale_readRoad_ok {Z : Nat × (Nat → Int)} {d : Nat} (hd : 6 ≤ d) {M : MM}  {res : AR × MM} (hf : tale_readRoad  M = some res) : EX Z d 79 0 (ent 79 [vR 81]) [] M res := by
  obtain ⟨e9, rfl⟩ : ∃ e9, d = e9 + 1 := ⟨d - 1, by omega⟩
  unfold tale_readRoad at hf
  show EX Z _ 79 0 [vR 81, vU, vU, vU] [] M res
  refine ex_pu (ls' := [vR 81, vU, vU, vU]) (st' := [vR 81]) (dg dc79 0 rfl) rfl rfl ?_
  refine ex_getF (dg dc79 1 rfl) rfl (LOC.st (Nat.le_of_ble_eq_true rfl) rfl) rfl ?_
  refine ex_getI (dg dc79 2 rfl) rfl (LOC.st (Nat.le_of_ble_eq_true rfl) rfl) rfl ?_
  refine ex_pu (ls' := [vR 81, vU, vU, vU]) (st' := [vI 16, vI (M 29 2)]) (dg dc79 3 rfl) rfl rfl ?_
  refine ex_icmp (t := 27) (dg dc79 4 rfl) rfl hf (fun _ hf => ?_) (fun _ hf => ?_)
  · refine ex_pu (ls' := [vR 81, vU, vU, vU]) (st' := [vR 81]) (dg dc79 12 rfl) rfl rfl ?_
    refine ex_getF (dg dc79 13 rfl) rfl (LOC.st (Nat.le_of_ble_eq_true rfl) rfl) rfl ?_
    refine ex_getI (dg dc79 14 rfl) rfl (LOC.st (Nat.le_of_ble_eq_true rfl) rfl) rfl ?_
    refine ex_pu (ls' := [vR 81, vI (M 29 2), vU, vU]) (st' := []) (dg dc79 15 rfl) rfl rfl ?_
    refine ex_pu (ls' := [vR 81, vI (M 29 2), vU, vU]) (st' := [vR 81]) (dg dc79 16 rfl) rfl rfl ?_
    refine ex_cI (vs := [vR 81]) (st' := []) (F := (tale_readPlaceNumber  M)) (Or.inr (Or.inl ⟨rfl, (dg dc79 17 rfl)⟩)) rfl rfl (rk1 (LOC.st (Nat.le_of_ble_eq_true rfl) rfl) rfl) rfl (fun _ r9 => tale_readPlaceNumber_ok (Z := Z) (d := e9) (by omega)  r9) hf (fun z_3 M_2 he_1 hf => ?_)
    refine ex_pu (ls' := [vR 81, vI (M 29 2), vI z_3, vU]) (st' := []) (dg dc79 18 rfl) rfl rfl ?_
    refine ex_pu (ls' := [vR 81, vI (M 29 2), vI z_3, vU]) (st' := [vR 81]) (dg dc79 19 rfl) rfl rfl ?_
    refine ex_cI (vs := [vR 81]) (st' := []) (F := (tale_readPlaceNumber  M_2)) (Or.inr (Or.inl ⟨rfl, (dg dc79 20 rfl)⟩)) rfl rfl (rk1 (LOC.st (Nat.le_of_ble_eq_true rfl) rfl) rfl) rfl (fun _ r9 => tale_readPlaceNumber_ok (Z := Z) (d := e9) (by omega)  r9) hf (fun z_6 M_5 he_4 hf => ?_)
    refine ex_pu (ls' := [vR 81, vI (M 29 2), vI z_3, vI z_6]) (st' := []) (dg dc79 21 rfl) rfl rfl ?_
    refine ex_pu (ls' := [vR 81, vI (M 29 2), vI z_3, vI z_6]) (st' := [vI z_3]) (dg dc79 22 rfl) rfl rfl ?_
    refine ex_pu (ls' := [vR 81, vI (M 29 2), vI z_3, vI z_6]) (st' := [vI z_6, vI z_3]) (dg dc79 23 rfl) rfl rfl ?_
    refine ex_icmp (t := 64) (dg dc79 24 rfl) rfl hf (fun _ hf => ?_) (fun _ hf => ?_)
    · exact tale_readRoad_J64_ok hd   (M 29 2) z_3 z_6 M_5 hf
    · refine ex_pu (ls' := [vR 81, vI (M 29 2), vI z_3, vI z_6]) (st' := [vR 81]) (dg dc79 25 rfl) rfl rfl ?_
      refine ex_getF (dg dc79 26 rfl) rfl (LOC.st (Nat.le_of_ble_eq_true rfl) rfl) rfl ?_
      refine ex_pu (ls' := [vR 81, vI (M 29 2), vI z_3, vI z_6]) (st' := [vR 81, vR 1]) (dg dc79 27 rfl) rfl rfl ?_
      refine ex_getF (dg dc79 28 rfl) rfl (LOC.st (Nat.le_of_ble_eq_true rfl) rfl) rfl ?_
      refine ex_getI (dg dc79 29 rfl) rfl (LOC.st (Nat.le_of_ble_eq_true rfl) rfl) rfl ?_
      refine ex_cV (vs := [vR 1, vI (M_5 1 3)]) (st' := []) (F := (tape_failAt (M_5 1 3) M_5)) (Or.inr (Or.inl ⟨rfl, (dg dc79 30 rfl)⟩)) rfl rfl (rk1 (LOC.st (Nat.le_of_ble_eq_true rfl) rfl) rfl) rfl (fun _ r9 => tape_failAt_ok (Z := Z) (d := e9) (by omega)  r9) hf (fun M_34 he_33 hf => ?_)
      exact tale_readRoad_J64_ok hd   (M 29 2) z_3 z_6 M_34 hf
  · refine ex_pu (ls' := [vR 81, vU, vU, vU]) (st' := [vR 81]) (dg dc79 5 rfl) rfl rfl ?_
    refine ex_getF (dg dc79 6 rfl) rfl (LOC.st (Nat.le_of_ble_eq_true rfl) rfl) rfl ?_
    refine ex_pu (ls' := [vR 81, vU, vU, vU]) (st' := [vR 81, vR 1]) (dg dc79 7 rfl) rfl rfl ?_
    refine ex_getF (dg dc79 8 rfl) rfl (LOC.st (Nat.le_of_ble_eq_true rfl) rfl) rfl ?_
    refine ex_getI (dg dc79 9 rfl) rfl (LOC.st (Nat.le_of_ble_eq_true rfl) rfl) rfl ?_
    refine ex_cV (vs := [vR 1, vI (M 1 3)]) (st' := []) (F := (tape_failAt (M 1 3) M)) (Or.inr (Or.inl ⟨rfl, (dg dc79 10 rfl)⟩)) rfl rfl (rk1 (LOC.st (Nat.le_of_ble_eq_true rfl) rfl) rfl) rfl (fun _ r9 => tape_failAt_ok (Z := Z) (d := e9) (by omega)  r9) hf (fun M_37 he_36 hf => ?_)
    exact ex_vre (dg dc79 11 rfl) rfl hf
-- GlassHill$TaleReader.readKeeper
def il80 : List (Nat × Instr × Nat) := [(0, .aload_n 0, 1), (1, .invokevirtual 97, 3), (4, .istore_n 1, 1), (5, .aload_n 0, 1), (6, .getfield 15, 3), (9, .iload_n 1, 1), (10, .invokevirtual 125, 3), (13, .ifCond .eq 17, 3), (16, .aload_n 0, 1), (17, .getfield 9, 3), (20, .aload_n 0, 1), (21, .getfield 9, 3), (24, .getfield 80, 3), (27, .invokevirtual 83, 3), (30, .aload_n 0, 1), (31, .iload_n 1, 1), (32, .invokevirtual 129, 3), (35, .aload_n 0, 1), (36, .iload_n 1, 1), (37, .invokevirtual 132, 3), (40, .aload_n 0, 1), (41, .getfield 9, 3), (44, .ldc 135, 2), (46, .invokevirtual 47, 3), (49, .ifCond .eq 18, 3), (52, .aload_n 0, 1), (53, .getfield 15, 3), (56, .dup, 1), (57, .getfield 137, 3), (60, .iconst 1, 1), (61, .iload_n 1, 1), (62, .ishl, 1), (63, .ior, 1), (64, .putfield 137, 3), (67, .aload_n 0, 1), (68, .getfield 9, 3), (71, .ldc 140, 2), (73, .invokevirtual 47, 3), (76, .ifCond .eq 10, 3), (79, .aload_n 0, 1), (80, .invokevirtual 87, 3), (83, .goto 4, 3), (86, .iconst (-1), 1), (87, .istore_n 2, 1), (88, .iload_n 2, 1), (89, .iconst (-1), 1), (90, .if_icmp .eq 28, 3), (93, .aload_n 0, 1), (94, .getfield 19, 3), (97, .getfield 100, 3), (100, .iload_n 2, 1), (101, .iload_n 1, 1), (102, .iastore, 1), (103, .aload_n 0, 1), (104, .getfield 19, 3), (107, .dup, 1), (108, .getfield 142, 3), (111, .iconst 1, 1), (112, .iload_n 2, 1), (113, .ishl, 1), (114, .ior, 1), (115, .putfield 142, 3), (118, .aload_n 0, 1), (119, .getfield 15, 3), (122, .getfield 145, 3), (125, .iload_n 1, 1), (126, .iload_n 2, 1), (127, .iastore, 1), (128, .aload_n 0, 1), (129, .getfield 15, 3), (132, .dup, 1), (133, .getfield 148, 3), (136, .iconst 1, 1), (137, .iload_n 1, 1), (138, .ishl, 1), (139, .ior, 1), (140, .putfield 148, 3), (143, .return_, 1)]
theorem dc80 : dcs (mC 80) il80 := dc_of (by decide +kernel)
def tale_readKeeper_J87   (v1 s0 : Int) (M : MM) : OR :=
  (bif cmpB .eq s0 (-1) then (bif inB v1 10 then (sM (mU M 34 (v1).toNat s0) fun M_19 => (sM (mU M_19 29 5 (iOr (M_19 29 5) (iShl 1 v1))) fun M_21 => some (rV, M_21))) else none) else (bif inB s0 10 then (sM (mU M 50 (s0).toNat v1) fun M_23 => (sM (mU M_23 49 5 (iOr (M_23 49 5) (iShl 1 s0))) fun M_25 => (bif inB v1 10 then (sM (mU M_25 34 (v1).toNat s0) fun M_27 => (sM (mU M_27 29 5 (iOr (M_27 29 5) (iShl 1 v1))) fun M_29 => some (rV, M_29))) else none))) else none))
set_option maxRecDepth 4000 in
theorem tale_readKeeper_J87_ok {Z : Nat × (Nat → Int)} {d : Nat} (hd : 7 ≤ d)   {res : AR × MM}  : ∀ (v1 s0 : Int) (M : MM) (j2 : AV), tale_readKeeper_J87   v1 s0 M = some res → EX Z d 80 87 [vR 81, vI v1, j2] [vI s0] M res := by
  obtain ⟨e9, rfl⟩ : ∃ e9, d = e9 + 1 := ⟨d - 1, by omega⟩
  intro v1 s0 M j2 hf
  unfold tale_readKeeper_J87 at hf
  refine ex_pu (ls' := [vR 81, vI v1, vI s0]) (st' := []) (dg dc80 43 rfl) rfl rfl ?_
  refine ex_pu (ls' := [vR 81, vI v1, vI s0]) (st' := [vI s0]) (dg dc80 44 rfl) rfl rfl ?_
  refine ex_pu (ls' := [vR 81, vI v1, vI s0]) (st' := [vI (-1), vI s0]) (dg dc80 45 rfl) rfl rfl ?_
  refine ex_icmp (t := 118) (dg dc80 46 rfl) rfl hf (fun _ hf => ?_) (fun _ hf => ?_)
  · refine ex_pu (ls' := [vR 81, vI v1, vI s0]) (st' := [vR 81]) (dg dc80 62 rfl) rfl rfl ?_
    refine ex_getF (dg dc80 63 rfl) rfl (LOC.st (Nat.le_of_ble_eq_true rfl) rfl) rfl ?_
    refine ex_getO (dg dc80 64 rfl) rfl (LOC.st (Nat.le_of_ble_eq_true rfl) rfl) rfl ?_
    show EX Z _ 80 _ [vR 81, vI v1, vI s0] [vR 34] _ _
    refine ex_pu (ls' := [vR 81, vI v1, vI s0]) (st' := [vI v1, vR 34]) (dg dc80 65 rfl) rfl rfl ?_
    refine ex_pu (ls' := [vR 81, vI v1, vI s0]) (st' := [vI s0, vI v1, vR 34]) (dg dc80 66 rfl) rfl rfl ?_
    refine ex_iast (dg dc80 67 rfl) (LOC.st (Nat.le_of_ble_eq_true rfl) rfl) rfl rfl hf (fun _ hf => ?_)
    refine ex_gen hf (fun M_19 hM_20 hf => ?_)
    refine ex_pu (ls' := [vR 81, vI v1, vI s0]) (st' := [vR 81]) (dg dc80 68 rfl) rfl rfl ?_
    refine ex_getF (dg dc80 69 rfl) rfl (LOC.st (Nat.le_of_ble_eq_true rfl) rfl) rfl ?_
    refine ex_pu (ls' := [vR 81, vI v1, vI s0]) (st' := [vR 29, vR 29]) (dg dc80 70 rfl) rfl rfl ?_
    refine ex_getI (dg dc80 71 rfl) rfl (LOC.st (Nat.le_of_ble_eq_true rfl) rfl) rfl ?_
    refine ex_pu (ls' := [vR 81, vI v1, vI s0]) (st' := [vI 1, vI (M_19 29 5), vR 29]) (dg dc80 72 rfl) rfl rfl ?_
    refine ex_pu (ls' := [vR 81, vI v1, vI s0]) (st' := [vI v1, vI 1, vI (M_19 29 5), vR 29]) (dg dc80 73 rfl) rfl rfl ?_
    refine ex_pu (ls' := [vR 81, vI v1, vI s0]) (st' := [vI (iShl 1 v1), vI (M_19 29 5), vR 29]) (dg dc80 74 rfl) rfl rfl ?_
    refine ex_pu (ls' := [vR 81, vI v1, vI s0]) (st' := [vI (iOr (M_19 29 5) (iShl 1 v1)), vR 29]) (dg dc80 75 rfl) rfl rfl ?_
    refine ex_putI (dg dc80 76 rfl) rfl (LOC.st (Nat.le_of_ble_eq_true rfl) rfl) rfl rfl rfl ?_
    refine ex_gen hf (fun M_21 hM_22 hf => ?_)
    exact ex_vre (dg dc80 77 rfl) rfl hf
  · refine ex_pu (ls' := [vR 81, vI v1, vI s0]) (st' := [vR 81]) (dg dc80 47 rfl) rfl rfl ?_
    refine ex_getF (dg dc80 48 rfl) rfl (LOC.st (Nat.le_of_ble_eq_true rfl) rfl) rfl ?_
    refine ex_getO (dg dc80 49 rfl) rfl (LOC.st (Nat.le_of_ble_eq_true rfl) rfl) rfl ?_
    show EX Z _ 80 _ [vR 81, vI v1, vI s0] [vR 50] _ _
    refine ex_pu (ls' := [vR 81, vI v1, vI s0]) (st' := [vI s0, vR 50]) (dg dc80 50 rfl) rfl rfl ?_
    refine ex_pu (ls' := [vR 81, vI v1, vI s0]) (st' := [vI v1, vI s0, vR 50]) (dg dc80 51 rfl) rfl rfl ?_
    refine ex_iast (dg dc80 52 rfl) (LOC.st (Nat.le_of_ble_eq_true rfl) rfl) rfl rfl hf (fun _ hf => ?_)
    refine ex_gen hf (fun M_23 hM_24 hf => ?_)
    refine ex_pu (ls' := [vR 81, vI v1, vI s0]) (st' := [vR 81]) (dg dc80 53 rfl) rfl rfl ?_
    refine ex_getF (dg dc80 54 rfl) rfl (LOC.st (Nat.le_of_ble_eq_true rfl) rfl) rfl ?_
    refine ex_pu (ls' := [vR 81, vI v1, vI s0]) (st' := [vR 49, vR 49]) (dg dc80 55 rfl) rfl rfl ?_
    refine ex_getI (dg dc80 56 rfl) rfl (LOC.st (Nat.le_of_ble_eq_true rfl) rfl) rfl ?_
    refine ex_pu (ls' := [vR 81, vI v1, vI s0]) (st' := [vI 1, vI (M_23 49 5), vR 49]) (dg dc80 57 rfl) rfl rfl ?_
    refine ex_pu (ls' := [vR 81, vI v1, vI s0]) (st' := [vI s0, vI 1, vI (M_23 49 5), vR 49]) (dg dc80 58 rfl) rfl rfl ?_
    refine ex_pu (ls' := [vR 81, vI v1, vI s0]) (st' := [vI (iShl 1 s0), vI (M_23 49 5), vR 49]) (dg dc80 59 rfl) rfl rfl ?_
    refine ex_pu (ls' := [vR 81, vI v1, vI s0]) (st' := [vI (iOr (M_23 49 5) (iShl 1 s0)), vR 49]) (dg dc80 60 rfl) rfl rfl ?_
    refine ex_putI (dg dc80 61 rfl) rfl (LOC.st (Nat.le_of_ble_eq_true rfl) rfl) rfl rfl rfl ?_
    refine ex_gen hf (fun M_25 hM_26 hf => ?_)
    refine ex_pu (ls' := [vR 81, vI v1, vI s0]) (st' := [vR 81]) (dg dc80 62 rfl) rfl rfl ?_
    refine ex_getF (dg dc80 63 rfl) rfl (LOC.st (Nat.le_of_ble_eq_true rfl) rfl) rfl ?_
    refine ex_getO (dg dc80 64 rfl) rfl (LOC.st (Nat.le_of_ble_eq_true rfl) rfl) rfl ?_
    show EX Z _ 80 _ [vR 81, vI v1, vI s0] [vR 34] _ _
    refine ex_pu (ls' := [vR 81, vI v1, vI s0]) (st' := [vI v1, vR 34]) (dg dc80 65 rfl) rfl rfl ?_
    refine ex_pu (ls' := [vR 81, vI v1, vI s0]) (st' := [vI s0, vI v1, vR 34]) (dg dc80 66 rfl) rfl rfl ?_
    refine ex_iast (dg dc80 67 rfl) (LOC.st (Nat.le_of_ble_eq_true rfl) rfl) rfl rfl hf (fun _ hf => ?_)
    refine ex_gen hf (fun M_27 hM_28 hf => ?_)
    refine ex_pu (ls' := [vR 81, vI v1, vI s0]) (st' := [vR 81]) (dg dc80 68 rfl) rfl rfl ?_
    refine ex_getF (dg dc80 69 rfl) rfl (LOC.st (Nat.le_of_ble_eq_true rfl) rfl) rfl ?_
    refine ex_pu (ls' := [vR 81, vI v1, vI s0]) (st' := [vR 29, vR 29]) (dg dc80 70 rfl) rfl rfl ?_
    refine ex_getI (dg dc80 71 rfl) rfl (LOC.st (Nat.le_of_ble_eq_true rfl) rfl) rfl ?_
    refine ex_pu (ls' := [vR 81, vI v1, vI s0]) (st' := [vI 1, vI (M_27 29 5), vR 29]) (dg dc80 72 rfl) rfl rfl ?_
    refine ex_pu (ls' := [vR 81, vI v1, vI s0]) (st' := [vI v1, vI 1, vI (M_27 29 5), vR 29]) (dg dc80 73 rfl) rfl rfl ?_
    refine ex_pu (ls' := [vR 81, vI v1, vI s0]) (st' := [vI (iShl 1 v1), vI (M_27 29 5), vR 29]) (dg dc80 74 rfl) rfl rfl ?_
    refine ex_pu (ls' := [vR 81, vI v1, vI s0]) (st' := [vI (iOr (M_27 29 5) (iShl 1 v1)), vR 29]) (dg dc80 75 rfl) rfl rfl ?_
    refine ex_putI (dg dc80 76 rfl) rfl (LOC.st (Nat.le_of_ble_eq_true rfl) rfl) rfl rfl rfl ?_
    refine ex_gen hf (fun M_29 hM_30 hf => ?_)
    exact ex_vre (dg dc80 77 rfl) rfl hf
def tale_readKeeper_J67   (v1 : Int) (M : MM) : OR :=
  (bI (tape_tookWord 12 M) fun z_18 M_17 => (bif cmpB .eq z_18 0 then (tale_readKeeper_J87   v1 (-1) M_17) else (bI (tale_readNewThing  M_17) fun z_33 M_32 => (tale_readKeeper_J87   v1 z_33 M_32))))
set_option maxRecDepth 4000 in
theorem tale_readKeeper_J67_ok {Z : Nat × (Nat → Int)} {d : Nat} (hd : 7 ≤ d)   {res : AR × MM}  : ∀ (v1 : Int) (M : MM) (j2 : AV), tale_readKeeper_J67   v1 M = some res → EX Z d 80 67 [vR 81, vI v1, j2] [] M res := by
  obtain ⟨e9, rfl⟩ : ∃ e9, d = e9 + 1 := ⟨d - 1, by omega⟩
  intro v1 M j2 hf
  unfold tale_readKeeper_J67 at hf
  refine ex_pu (ls' := [vR 81, vI v1, j2]) (st' := [vR 81]) (dg dc80 34 rfl) rfl rfl ?_
  refine ex_getF (dg dc80 35 rfl) rfl (LOC.st (Nat.le_of_ble_eq_true rfl) rfl) rfl ?_
  refine ex_ldcT (dg dc80 36 rfl) rfl ?_
  refine ex_cI (vs := [vR 1, vR (E0 + 2 + 2 * 12)]) (st' := []) (F := (tape_tookWord 12 M)) (Or.inr (Or.inl ⟨rfl, (dg dc80 37 rfl)⟩)) rfl rfl (rk1 (LOC.st (Nat.le_of_ble_eq_true rfl) rfl) rfl) rfl (fun _ r9 => tape_tookWord_ok (Z := Z) (d := e9) (by omega) (by decide)  r9) hf (fun z_18 M_17 he_16 hf => ?_)
  refine ex_if (t := 86) (dg dc80 38 rfl) rfl hf (fun _ hf => ?_) (fun _ hf => ?_)
  · refine ex_pu (ls' := [vR 81, vI v1, j2]) (st' := [vI (-1)]) (dg dc80 42 rfl) rfl rfl ?_
    exact tale_readKeeper_J87_ok hd   v1 (-1) M_17 _ hf
  · refine ex_pu (ls' := [vR 81, vI v1, j2]) (st' := [vR 81]) (dg dc80 39 rfl) rfl rfl ?_
    refine ex_cI (vs := [vR 81]) (st' := []) (F := (tale_readNewThing  M_17)) (Or.inr (Or.inl ⟨rfl, (dg dc80 40 rfl)⟩)) rfl rfl (rk1 (LOC.st (Nat.le_of_ble_eq_true rfl) rfl) rfl) rfl (fun _ r9 => tale_readNewThing_ok (Z := Z) (d := e9) (by omega)  r9) hf (fun z_33 M_32 he_31 hf => ?_)
    refine ex_goto (t := 87) (dg dc80 41 rfl) rfl rfl ?_
    exact tale_readKeeper_J87_ok hd   v1 z_33 M_32 _ hf
def tale_readKeeper_J30   (v1 : Int) (M : MM) : OR :=
  (bV (tale_readLock v1 M) fun M_8 => (bV (tale_readMeal v1 M_8) fun M_11 => (bI (tape_tookWord 11 M_11) fun z_15 M_14 => (bif cmpB .eq z_15 0 then (tale_readKeeper_J67   v1 M_14) else (sM (mU M_14 29 6 (iOr (M_14 29 6) (iShl 1 v1))) fun M_34 => (tale_readKeeper_J67   v1 M_34))))))
set_option maxRecDepth 4000 in
theorem tale_readKeeper_J30_ok {Z : Nat × (Nat → Int)} {d : Nat} (hd : 7 ≤ d)   {res : AR × MM}  : ∀ (v1 : Int) (M : MM) (j2 : AV), tale_readKeeper_J30   v1 M = some res → EX Z d 80 30 [vR 81, vI v1, j2] [] M res := by
  obtain ⟨e9, rfl⟩ : ∃ e9, d = e9 + 1 := ⟨d - 1, by omega⟩
  intro v1 M j2 hf
  unfold tale_readKeeper_J30 at hf
  refine ex_pu (ls' := [vR 81, vI v1, j2]) (st' := [vR 81]) (dg dc80 14 rfl) rfl rfl ?_
  refine ex_pu (ls' := [vR 81, vI v1, j2]) (st' := [vI v1, vR 81]) (dg dc80 15 rfl) rfl rfl ?_
  refine ex_cV (vs := [vR 81, vI v1]) (st' := []) (F := (tale_readLock v1 M)) (Or.inr (Or.inl ⟨rfl, (dg dc80 16 rfl)⟩)) rfl rfl (rk1 (LOC.st (Nat.le_of_ble_eq_true rfl) rfl) rfl) rfl (fun _ r9 => tale_readLock_ok (Z := Z) (d := e9) (by omega)  r9) hf (fun M_8 he_7 hf => ?_)
  refine ex_pu (ls' := [vR 81, vI v1, j2]) (st' := [vR 81]) (dg dc80 17 rfl) rfl rfl ?_
  refine ex_pu (ls' := [vR 81, vI v1, j2]) (st' := [vI v1, vR 81]) (dg dc80 18 rfl) rfl rfl ?_
  refine ex_cV (vs := [vR 81, vI v1]) (st' := []) (F := (tale_readMeal v1 M_8)) (Or.inr (Or.inl ⟨rfl, (dg dc80 19 rfl)⟩)) rfl rfl (rk1 (LOC.st (Nat.le_of_ble_eq_true rfl) rfl) rfl) rfl (fun _ r9 => tale_readMeal_ok (Z := Z) (d := e9) (by omega)  r9) hf (fun M_11 he_10 hf => ?_)
  refine ex_pu (ls' := [vR 81, vI v1, j2]) (st' := [vR 81]) (dg dc80 20 rfl) rfl rfl ?_
  refine ex_getF (dg dc80 21 rfl) rfl (LOC.st (Nat.le_of_ble_eq_true rfl) rfl) rfl ?_
  refine ex_ldcT (dg dc80 22 rfl) rfl ?_
  refine ex_cI (vs := [vR 1, vR (E0 + 2 + 2 * 11)]) (st' := []) (F := (tape_tookWord 11 M_11)) (Or.inr (Or.inl ⟨rfl, (dg dc80 23 rfl)⟩)) rfl rfl (rk1 (LOC.st (Nat.le_of_ble_eq_true rfl) rfl) rfl) rfl (fun _ r9 => tape_tookWord_ok (Z := Z) (d := e9) (by omega) (by decide)  r9) hf (fun z_15 M_14 he_13 hf => ?_)
  refine ex_if (t := 67) (dg dc80 24 rfl) rfl hf (fun _ hf => ?_) (fun _ hf => ?_)
  · exact tale_readKeeper_J67_ok hd   v1 M_14 _ hf
  · refine ex_pu (ls' := [vR 81, vI v1, j2]) (st' := [vR 81]) (dg dc80 25 rfl) rfl rfl ?_
    refine ex_getF (dg dc80 26 rfl) rfl (LOC.st (Nat.le_of_ble_eq_true rfl) rfl) rfl ?_
    refine ex_pu (ls' := [vR 81, vI v1, j2]) (st' := [vR 29, vR 29]) (dg dc80 27 rfl) rfl rfl ?_
    refine ex_getI (dg dc80 28 rfl) rfl (LOC.st (Nat.le_of_ble_eq_true rfl) rfl) rfl ?_
    refine ex_pu (ls' := [vR 81, vI v1, j2]) (st' := [vI 1, vI (M_14 29 6), vR 29]) (dg dc80 29 rfl) rfl rfl ?_
    refine ex_pu (ls' := [vR 81, vI v1, j2]) (st' := [vI v1, vI 1, vI (M_14 29 6), vR 29]) (dg dc80 30 rfl) rfl rfl ?_
    refine ex_pu (ls' := [vR 81, vI v1, j2]) (st' := [vI (iShl 1 v1), vI (M_14 29 6), vR 29]) (dg dc80 31 rfl) rfl rfl ?_
    refine ex_pu (ls' := [vR 81, vI v1, j2]) (st' := [vI (iOr (M_14 29 6) (iShl 1 v1)), vR 29]) (dg dc80 32 rfl) rfl rfl ?_
    refine ex_putI (dg dc80 33 rfl) rfl (LOC.st (Nat.le_of_ble_eq_true rfl) rfl) rfl rfl rfl ?_
    refine ex_gen hf (fun M_34 hM_35 hf => ?_)
    exact tale_readKeeper_J67_ok hd   v1 M_34 _ hf
def tale_readKeeper  (M : MM) : OR :=
  (bI (tale_readPlaceNumber  M) fun z_3 M_2 => (bI (land_hasKeeper 29 z_3 M_2) fun z_6 M_5 => (bif cmpB .eq z_6 0 then (tale_readKeeper_J30   z_3 M_5) else (bV (tape_failAt (M_5 1 3) M_5) fun M_37 => (tale_readKeeper_J30   z_3 M_37)))))
set_option maxRecDepth 4000 in
theorem tale_readKeeper_ok {Z : Nat × (Nat → Int)} {d : Nat} (hd : 7 ≤ d) {M : MM}  {res : AR × MM} (hf : tale_readKeeper  M = some res) : EX Z d 80 0 (ent 80 [vR 81]) [] M res := by
  obtain ⟨e9, rfl⟩ : ∃ e9, d = e9 + 1 := ⟨d - 1, by omega⟩
  unfold tale_readKeeper at hf
  show EX Z _ 80 0 [vR 81, vU, vU] [] M res
  refine ex_pu (ls' := [vR 81, vU, vU]) (st' := [vR 81]) (dg dc80 0 rfl) rfl rfl ?_
  refine ex_cI (vs := [vR 81]) (st' := []) (F := (tale_readPlaceNumber  M)) (Or.inr (Or.inl ⟨rfl, (dg dc80 1 rfl)⟩)) rfl rfl (rk1 (LOC.st (Nat.le_of_ble_eq_true rfl) rfl) rfl) rfl (fun _ r9 => tale_readPlaceNumber_ok (Z := Z) (d := e9) (by omega)  r9) hf (fun z_3 M_2 he_1 hf => ?_)
  refine ex_pu (ls' := [vR 81, vI z_3, vU]) (st' := []) (dg dc80 2 rfl) rfl rfl ?_
  refine ex_pu (ls' := [vR 81, vI z_3, vU]) (st' := [vR 81]) (dg dc80 3 rfl) rfl rfl ?_
  refine ex_getF (dg dc80 4 rfl) rfl (LOC.st (Nat.le_of_ble_eq_true rfl) rfl) rfl ?_
  refine ex_pu (ls' := [vR 81, vI z_3, vU]) (st' := [vI z_3, vR 29]) (dg dc80 5 rfl) rfl rfl ?_
  refine ex_cI (vs := [vR 29, vI z_3]) (st' := []) (F := (land_hasKeeper 29 z_3 M_2)) (Or.inr (Or.inl ⟨rfl, (dg dc80 6 rfl)⟩)) rfl rfl (rk1 (LOC.st (Nat.le_of_ble_eq_true rfl) rfl) rfl) rfl (fun _ r9 => land_hasKeeper_ok (Z := Z) (d := e9) (by omega) isLand29  r9) hf (fun z_6 M_5 he_4 hf => ?_)
  refine ex_if (t := 30) (dg dc80 7 rfl) rfl hf (fun _ hf => ?_) (fun _ hf => ?_)
  · exact tale_readKeeper_J30_ok hd   z_3 M_5 _ hf
  · refine ex_pu (ls' := [vR 81, vI z_3, vU]) (st' := [vR 81]) (dg dc80 8 rfl) rfl rfl ?_
    refine ex_getF (dg dc80 9 rfl) rfl (LOC.st (Nat.le_of_ble_eq_true rfl) rfl) rfl ?_
    refine ex_pu (ls' := [vR 81, vI z_3, vU]) (st' := [vR 81, vR 1]) (dg dc80 10 rfl) rfl rfl ?_
    refine ex_getF (dg dc80 11 rfl) rfl (LOC.st (Nat.le_of_ble_eq_true rfl) rfl) rfl ?_
    refine ex_getI (dg dc80 12 rfl) rfl (LOC.st (Nat.le_of_ble_eq_true rfl) rfl) rfl ?_
    refine ex_cV (vs := [vR 1, vI (M_5 1 3)]) (st' := []) (F := (tape_failAt (M_5 1 3) M_5)) (Or.inr (Or.inl ⟨rfl, (dg dc80 13 rfl)⟩)) rfl rfl (rk1 (LOC.st (Nat.le_of_ble_eq_true rfl) rfl) rfl) rfl (fun _ r9 => tape_failAt_ok (Z := Z) (d := e9) (by omega)  r9) hf (fun M_37 he_36 hf => ?_)
    exact tale_readKeeper_J30_ok hd   z_3 M_37 _ hf
-- GlassHill$TaleReader.readBrother
def il82 : List (Nat × Instr × Nat) := [(0, .aload_n 0, 1), (1, .getfield 15, 3), (4, .getfield 161, 3), (7, .bipush 7, 2), (9, .if_icmp .lt 18, 3), (12, .aload_n 0, 1), (13, .getfield 9, 3), (16, .aload_n 0, 1), (17, .getfield 9, 3), (20, .getfield 80, 3), (23, .invokevirtual 83, 3), (26, .return_, 1), (27, .aload_n 0, 1), (28, .getfield 15, 3), (31, .getfield 161, 3), (34, .istore_n 1, 1), (35, .aload_n 0, 1), (36, .getfield 15, 3), (39, .getfield 164, 3), (42, .iload_n 1, 1), (43, .aload_n 0, 1), (44, .invokevirtual 97, 3), (47, .iastore, 1), (48, .aload_n 0, 1), (49, .bipush 10, 2), (51, .iload_n 1, 1), (52, .iadd, 1), (53, .invokevirtual 129, 3), (56, .aload_n 0, 1), (57, .getfield 9, 3), (60, .ldc 167, 2), (62, .invokevirtual 93, 3), (65, .aload_n 0, 1), (66, .getfield 15, 3), (69, .getfield 169, 3), (72, .iload_n 1, 1), (73, .aload_n 0, 1), (74, .getfield 9, 3), (77, .iconst 0, 1), (78, .bipush 99, 2), (80, .invokevirtual 117, 3), (83, .iastore, 1), (84, .aload_n 0, 1), (85, .getfield 9, 3), (88, .ldc 171, 2), (90, .invokevirtual 93, 3), (93, .aload_n 0, 1), (94, .getfield 15, 3), (97, .getfield 173, 3), (100, .iload_n 1, 1), (101, .aload_n 0, 1), (102, .getfield 9, 3), (105, .iconst 0, 1), (106, .sipush 999, 3), (109, .invokevirtual 117, 3), (112, .iastore, 1), (113, .aload_n 0, 1), (114, .getfield 15, 3), (117, .dup, 1), (118, .getfield 161, 3), (121, .iconst 1, 1), (122, .iadd, 1), (123, .putfield 161, 3), (126, .return_, 1)]
theorem dc82 : dcs (mC 82) il82 := dc_of (by decide +kernel)
def tale_readBrother  (M : MM) : OR :=
  (bif cmpB .lt (M 29 3) 7 then (bI (tale_readPlaceNumber  M) fun z_3 M_2 => (bif inB (M 29 3) 7 then (sM (mU M_2 40 ((M 29 3)).toNat z_3) fun M_4 => (bV (tale_readLock (10 + (M 29 3)) M_4) fun M_7 => (bV (tape_needWord 14 M_7) fun M_10 => (bI (tape_needNumber 0 99 M_10) fun z_14 M_13 => (bif inB (M 29 3) 7 then (sM (mU M_13 41 ((M 29 3)).toNat z_14) fun M_15 => (bV (tape_needWord 15 M_15) fun M_18 => (bI (tape_needNumber 0 999 M_18) fun z_22 M_21 => (bif inB (M 29 3) 7 then (sM (mU M_21 42 ((M 29 3)).toNat z_22) fun M_23 => (sM (mU M_23 29 3 ((M_23 29 3) + 1)) fun M_25 => some (rV, M_25))) else none)))) else none))))) else none)) else (bV (tape_failAt (M 1 3) M) fun M_28 => some (rV, M_28)))
set_option maxRecDepth 4000 in
theorem tale_readBrother_ok {Z : Nat × (Nat → Int)} {d : Nat} (hd : 7 ≤ d) {M : MM}  {res : AR × MM} (hf : tale_readBrother  M = some res) : EX Z d 82 0 (ent 82 [vR 81]) [] M res := by
  obtain ⟨e9, rfl⟩ : ∃ e9, d = e9 + 1 := ⟨d - 1, by omega⟩
  unfold tale_readBrother at hf
  show EX Z _ 82 0 [vR 81, vU] [] M res
  refine ex_pu (ls' := [vR 81, vU]) (st' := [vR 81]) (dg dc82 0 rfl) rfl rfl ?_
  refine ex_getF (dg dc82 1 rfl) rfl (LOC.st (Nat.le_of_ble_eq_true rfl) rfl) rfl ?_
  refine ex_getI (dg dc82 2 rfl) rfl (LOC.st (Nat.le_of_ble_eq_true rfl) rfl) rfl ?_
  refine ex_pu (ls' := [vR 81, vU]) (st' := [vI 7, vI (M 29 3)]) (dg dc82 3 rfl) rfl rfl ?_
  refine ex_icmp (t := 27) (dg dc82 4 rfl) rfl hf (fun _ hf => ?_) (fun _ hf => ?_)
  · refine ex_pu (ls' := [vR 81, vU]) (st' := [vR 81]) (dg dc82 12 rfl) rfl rfl ?_
    refine ex_getF (dg dc82 13 rfl) rfl (LOC.st (Nat.le_of_ble_eq_true rfl) rfl) rfl ?_
    refine ex_getI (dg dc82 14 rfl) rfl (LOC.st (Nat.le_of_ble_eq_true rfl) rfl) rfl ?_
    refine ex_pu (ls' := [vR 81, vI (M 29 3)]) (st' := []) (dg dc82 15 rfl) rfl rfl ?_
    refine ex_pu (ls' := [vR 81, vI (M 29 3)]) (st' := [vR 81]) (dg dc82 16 rfl) rfl rfl ?_
    refine ex_getF (dg dc82 17 rfl) rfl (LOC.st (Nat.le_of_ble_eq_true rfl) rfl) rfl ?_
    refine ex_getO (dg dc82 18 rfl) rfl (LOC.st (Nat.le_of_ble_eq_true rfl) rfl) rfl ?_
    show EX Z _ 82 _ [vR 81, vI (M 29 3)] [vR 40] _ _
    refine ex_pu (ls' := [vR 81, vI (M 29 3)]) (st' := [vI (M 29 3), vR 40]) (dg dc82 19 rfl) rfl rfl ?_
    refine ex_pu (ls' := [vR 81, vI (M 29 3)]) (st' := [vR 81, vI (M 29 3), vR 40]) (dg dc82 20 rfl) rfl rfl ?_
    refine ex_cI (vs := [vR 81]) (st' := [vI (M 29 3), vR 40]) (F := (tale_readPlaceNumber  M)) (Or.inr (Or.inl ⟨rfl, (dg dc82 21 rfl)⟩)) rfl rfl (rk1 (LOC.st (Nat.le_of_ble_eq_true rfl) rfl) rfl) rfl (fun _ r9 => tale_readPlaceNumber_ok (Z := Z) (d := e9) (by omega)  r9) hf (fun z_3 M_2 he_1 hf => ?_)
    refine ex_iast (dg dc82 22 rfl) (LOC.st (Nat.le_of_ble_eq_true rfl) rfl) rfl rfl hf (fun _ hf => ?_)
    refine ex_gen hf (fun M_4 hM_5 hf => ?_)
    refine ex_pu (ls' := [vR 81, vI (M 29 3)]) (st' := [vR 81]) (dg dc82 23 rfl) rfl rfl ?_
    refine ex_pu (ls' := [vR 81, vI (M 29 3)]) (st' := [vI 10, vR 81]) (dg dc82 24 rfl) rfl rfl ?_
    refine ex_pu (ls' := [vR 81, vI (M 29 3)]) (st' := [vI (M 29 3), vI 10, vR 81]) (dg dc82 25 rfl) rfl rfl ?_
    refine ex_pu (ls' := [vR 81, vI (M 29 3)]) (st' := [vI (10 + (M 29 3)), vR 81]) (dg dc82 26 rfl) rfl rfl ?_
    refine ex_cV (vs := [vR 81, vI (10 + (M 29 3))]) (st' := []) (F := (tale_readLock (10 + (M 29 3)) M_4)) (Or.inr (Or.inl ⟨rfl, (dg dc82 27 rfl)⟩)) rfl rfl (rk1 (LOC.st (Nat.le_of_ble_eq_true rfl) rfl) rfl) rfl (fun _ r9 => tale_readLock_ok (Z := Z) (d := e9) (by omega)  r9) hf (fun M_7 he_6 hf => ?_)
    refine ex_pu (ls' := [vR 81, vI (M 29 3)]) (st' := [vR 81]) (dg dc82 28 rfl) rfl rfl ?_
    refine ex_getF (dg dc82 29 rfl) rfl (LOC.st (Nat.le_of_ble_eq_true rfl) rfl) rfl ?_
    refine ex_ldcT (dg dc82 30 rfl) rfl ?_
    refine ex_cV (vs := [vR 1, vR (E0 + 2 + 2 * 14)]) (st' := []) (F := (tape_needWord 14 M_7)) (Or.inr (Or.inl ⟨rfl, (dg dc82 31 rfl)⟩)) rfl rfl (rk1 (LOC.st (Nat.le_of_ble_eq_true rfl) rfl) rfl) rfl (fun _ r9 => tape_needWord_ok (Z := Z) (d := e9) (by omega) (by decide)  r9) hf (fun M_10 he_9 hf => ?_)
    refine ex_pu (ls' := [vR 81, vI (M 29 3)]) (st' := [vR 81]) (dg dc82 32 rfl) rfl rfl ?_
    refine ex_getF (dg dc82 33 rfl) rfl (LOC.st (Nat.le_of_ble_eq_true rfl) rfl) rfl ?_
    refine ex_getO (dg dc82 34 rfl) rfl (LOC.st (Nat.le_of_ble_eq_true rfl) rfl) rfl ?_
    show EX Z _ 82 _ [vR 81, vI (M 29 3)] [vR 41] _ _
    refine ex_pu (ls' := [vR 81, vI (M 29 3)]) (st' := [vI (M 29 3), vR 41]) (dg dc82 35 rfl) rfl rfl ?_
    refine ex_pu (ls' := [vR 81, vI (M 29 3)]) (st' := [vR 81, vI (M 29 3), vR 41]) (dg dc82 36 rfl) rfl rfl ?_
    refine ex_getF (dg dc82 37 rfl) rfl (LOC.st (Nat.le_of_ble_eq_true rfl) rfl) rfl ?_
    refine ex_pu (ls' := [vR 81, vI (M 29 3)]) (st' := [vI 0, vR 1, vI (M 29 3), vR 41]) (dg dc82 38 rfl) rfl rfl ?_
    refine ex_pu (ls' := [vR 81, vI (M 29 3)]) (st' := [vI 99, vI 0, vR 1, vI (M 29 3), vR 41]) (dg dc82 39 rfl) rfl rfl ?_
    refine ex_cI (vs := [vR 1, vI 0, vI 99]) (st' := [vI (M 29 3), vR 41]) (F := (tape_needNumber 0 99 M_10)) (Or.inr (Or.inl ⟨rfl, (dg dc82 40 rfl)⟩)) rfl rfl (rk1 (LOC.st (Nat.le_of_ble_eq_true rfl) rfl) rfl) rfl (fun _ r9 => tape_needNumber_ok (Z := Z) (d := e9) (by omega)  r9) hf (fun z_14 M_13 he_12 hf => ?_)
    refine ex_iast (dg dc82 41 rfl) (LOC.st (Nat.le_of_ble_eq_true rfl) rfl) rfl rfl hf (fun _ hf => ?_)
    refine ex_gen hf (fun M_15 hM_16 hf => ?_)
    refine ex_pu (ls' := [vR 81, vI (M 29 3)]) (st' := [vR 81]) (dg dc82 42 rfl) rfl rfl ?_
    refine ex_getF (dg dc82 43 rfl) rfl (LOC.st (Nat.le_of_ble_eq_true rfl) rfl) rfl ?_
    refine ex_ldcT (dg dc82 44 rfl) rfl ?_
    refine ex_cV (vs := [vR 1, vR (E0 + 2 + 2 * 15)]) (st' := []) (F := (tape_needWord 15 M_15)) (Or.inr (Or.inl ⟨rfl, (dg dc82 45 rfl)⟩)) rfl rfl (rk1 (LOC.st (Nat.le_of_ble_eq_true rfl) rfl) rfl) rfl (fun _ r9 => tape_needWord_ok (Z := Z) (d := e9) (by omega) (by decide)  r9) hf (fun M_18 he_17 hf => ?_)
    refine ex_pu (ls' := [vR 81, vI (M 29 3)]) (st' := [vR 81]) (dg dc82 46 rfl) rfl rfl ?_
    refine ex_getF (dg dc82 47 rfl) rfl (LOC.st (Nat.le_of_ble_eq_true rfl) rfl) rfl ?_
    refine ex_getO (dg dc82 48 rfl) rfl (LOC.st (Nat.le_of_ble_eq_true rfl) rfl) rfl ?_
    show EX Z _ 82 _ [vR 81, vI (M 29 3)] [vR 42] _ _
    refine ex_pu (ls' := [vR 81, vI (M 29 3)]) (st' := [vI (M 29 3), vR 42]) (dg dc82 49 rfl) rfl rfl ?_
    refine ex_pu (ls' := [vR 81, vI (M 29 3)]) (st' := [vR 81, vI (M 29 3), vR 42]) (dg dc82 50 rfl) rfl rfl ?_
    refine ex_getF (dg dc82 51 rfl) rfl (LOC.st (Nat.le_of_ble_eq_true rfl) rfl) rfl ?_
    refine ex_pu (ls' := [vR 81, vI (M 29 3)]) (st' := [vI 0, vR 1, vI (M 29 3), vR 42]) (dg dc82 52 rfl) rfl rfl ?_
    refine ex_pu (ls' := [vR 81, vI (M 29 3)]) (st' := [vI 999, vI 0, vR 1, vI (M 29 3), vR 42]) (dg dc82 53 rfl) rfl rfl ?_
    refine ex_cI (vs := [vR 1, vI 0, vI 999]) (st' := [vI (M 29 3), vR 42]) (F := (tape_needNumber 0 999 M_18)) (Or.inr (Or.inl ⟨rfl, (dg dc82 54 rfl)⟩)) rfl rfl (rk1 (LOC.st (Nat.le_of_ble_eq_true rfl) rfl) rfl) rfl (fun _ r9 => tape_needNumber_ok (Z := Z) (d := e9) (by omega)  r9) hf (fun z_22 M_21 he_20 hf => ?_)
    refine ex_iast (dg dc82 55 rfl) (LOC.st (Nat.le_of_ble_eq_true rfl) rfl) rfl rfl hf (fun _ hf => ?_)
    refine ex_gen hf (fun M_23 hM_24 hf => ?_)
    refine ex_pu (ls' := [vR 81, vI (M 29 3)]) (st' := [vR 81]) (dg dc82 56 rfl) rfl rfl ?_
    refine ex_getF (dg dc82 57 rfl) rfl (LOC.st (Nat.le_of_ble_eq_true rfl) rfl) rfl ?_
    refine ex_pu (ls' := [vR 81, vI (M 29 3)]) (st' := [vR 29, vR 29]) (dg dc82 58 rfl) rfl rfl ?_
    refine ex_getI (dg dc82 59 rfl) rfl (LOC.st (Nat.le_of_ble_eq_true rfl) rfl) rfl ?_
    refine ex_pu (ls' := [vR 81, vI (M 29 3)]) (st' := [vI 1, vI (M_23 29 3), vR 29]) (dg dc82 60 rfl) rfl rfl ?_
    refine ex_pu (ls' := [vR 81, vI (M 29 3)]) (st' := [vI ((M_23 29 3) + 1), vR 29]) (dg dc82 61 rfl) rfl rfl ?_
    refine ex_putI (dg dc82 62 rfl) rfl (LOC.st (Nat.le_of_ble_eq_true rfl) rfl) rfl rfl rfl ?_
    refine ex_gen hf (fun M_25 hM_26 hf => ?_)
    exact ex_vre (dg dc82 63 rfl) rfl hf
  · refine ex_pu (ls' := [vR 81, vU]) (st' := [vR 81]) (dg dc82 5 rfl) rfl rfl ?_
    refine ex_getF (dg dc82 6 rfl) rfl (LOC.st (Nat.le_of_ble_eq_true rfl) rfl) rfl ?_
    refine ex_pu (ls' := [vR 81, vU]) (st' := [vR 81, vR 1]) (dg dc82 7 rfl) rfl rfl ?_
    refine ex_getF (dg dc82 8 rfl) rfl (LOC.st (Nat.le_of_ble_eq_true rfl) rfl) rfl ?_
    refine ex_getI (dg dc82 9 rfl) rfl (LOC.st (Nat.le_of_ble_eq_true rfl) rfl) rfl ?_
    refine ex_cV (vs := [vR 1, vI (M 1 3)]) (st' := []) (F := (tape_failAt (M 1 3) M)) (Or.inr (Or.inl ⟨rfl, (dg dc82 10 rfl)⟩)) rfl rfl (rk1 (LOC.st (Nat.le_of_ble_eq_true rfl) rfl) rfl) rfl (fun _ r9 => tape_failAt_ok (Z := Z) (d := e9) (by omega)  r9) hf (fun M_28 he_27 hf => ?_)
    exact ex_vre (dg dc82 11 rfl) rfl hf
-- GlassHill$LawReader.readAtom
def il32 : List (Nat × Instr × Nat) := [(0, .aload_n 0, 1), (1, .getfield 9, 3), (4, .ldc 87, 2), (6, .invokevirtual 53, 3), (9, .ifCond .eq 32, 3), (12, .aload_n 0, 1), (13, .iload_n 1, 1), (14, .invokevirtual 89, 3), (17, .ifCond .eq 4, 3), (20, .return_, 1), (21, .aload_n 0, 1), (22, .iload_n 1, 1), (23, .iconst 1, 1), (24, .iadd, 1), (25, .invokevirtual 82, 3), (28, .aload_n 0, 1), (29, .getfield 15, 3), (32, .sipush 1008, 3), (35, .invokevirtual 79, 3), (38, .goto 99, 3), (41, .aload_n 0, 1), (42, .getfield 9, 3), (45, .bipush 40, 2), (47, .invokevirtual 44, 3), (50, .ifCond .eq 41, 3), (53, .aload_n 0, 1), (54, .iload_n 1, 1), (55, .invokevirtual 89, 3), (58, .ifCond .eq 4, 3), (61, .return_, 1), (62, .aload_n 0, 1), (63, .iload_n 1, 1), (64, .iconst 1, 1), (65, .iadd, 1), (66, .invokevirtual 68, 3), (69, .aload_n 0, 1), (70, .getfield 9, 3), (73, .bipush 41, 2), (75, .invokevirtual 44, 3), (78, .ifCond .ne 59, 3), (81, .aload_n 0, 1), (82, .getfield 9, 3), (85, .invokevirtual 37, 3), (88, .goto 49, 3), (91, .aload_n 0, 1), (92, .getfield 9, 3), (95, .ldc 93, 2), (97, .invokevirtual 53, 3), (100, .ifCond .eq 16, 3), (103, .aload_n 0, 1), (104, .getfield 15, 3), (107, .sipush 1007, 3), (110, .invokevirtual 79, 3), (113, .goto 24, 3), (116, .aload_n 0, 1), (117, .invokevirtual 95, 3), (120, .aload_n 0, 1), (121, .invokevirtual 98, 3), (124, .istore_n 2, 1), (125, .aload_n 0, 1), (126, .invokevirtual 95, 3), (129, .aload_n 0, 1), (130, .getfield 15, 3), (133, .iload_n 2, 1), (134, .invokevirtual 79, 3), (137, .return_, 1)]
theorem dc32 : dcs (mC 32) il32 := dc_of (by decide +kernel)
def lawr_readAtom (R : Int → MM → OR) (v1 : Int) (M : MM) : OR :=
  (bI (tape_tookWord 21 M) fun z_3 M_2 => (bif cmpB .eq z_3 0 then (bI (tape_tookMark 40 M_2) fun z_6 M_5 => (bif cmpB .eq z_6 0 then (bI (tape_tookWord 22 M_5) fun z_9 M_8 => (bif cmpB .eq z_9 0 then (bV (lawr_readSum  M_8) fun M_11 => (bI (lawr_readComparison  M_11) fun z_15 M_14 => (bV (lawr_readSum  M_14) fun M_17 => (bV (law_append 43 z_15 M_17) fun M_20 => some (rV, M_20))))) else (bV (law_append 43 1007 M_8) fun M_23 => some (rV, M_23)))) else (bI (lawr_isTooDeep v1 M_5) fun z_27 M_26 => (bif cmpB .eq z_27 0 then (bV (lawr_readChoice R (v1 + 1) M_26) fun M_29 => (bI (tape_tookMark 41 M_29) fun z_33 M_32 => (bif cmpB .ne z_33 0 then some (rV, M_32) else (bV (tape_fail  M_32) fun M_35 => some (rV, M_35))))) else some (rV, M_26))))) else (bI (lawr_isTooDeep v1 M_2) fun z_39 M_38 => (bif cmpB .eq z_39 0 then (bV (R (v1 + 1) M_38) fun M_41 => (bV (law_append 43 1008 M_41) fun M_44 => some (rV, M_44))) else some (rV, M_38)))))
set_option maxRecDepth 4000 in
theorem lawr_readAtom_ok {Z : Nat × (Nat → Int)} {d : Nat} (hd : 7 ≤ d) {E9 : Nat} (hE : E9 + 3 ≤ d) {R : Int → MM → OR} (hR : ∀ {e : Nat}, E9 ≤ e → ∀ {u0 : Int} {M : MM} {r : AR × MM}, R u0 M = some r → EX Z e 32 0 (ent 32 [vR 82, vI u0]) [] M r) {M : MM}  {v1 : Int} {res : AR × MM} (hf : lawr_readAtom R v1 M = some res) : EX Z d 32 0 (ent 32 [vR 82, vI v1]) [] M res := by
  obtain ⟨e9, rfl⟩ : ∃ e9, d = e9 + 1 := ⟨d - 1, by omega⟩
  unfold lawr_readAtom at hf
  show EX Z _ 32 0 [vR 82, vI v1, vU] [] M res
  refine ex_pu (ls' := [vR 82, vI v1, vU]) (st' := [vR 82]) (dg dc32 0 rfl) rfl rfl ?_
  refine ex_getF (dg dc32 1 rfl) rfl (LOC.st (Nat.le_of_ble_eq_true rfl) rfl) rfl ?_
  refine ex_ldcT (dg dc32 2 rfl) rfl ?_
  refine ex_cI (vs := [vR 1, vR (E0 + 2 + 2 * 21)]) (st' := []) (F := (tape_tookWord 21 M)) (Or.inr (Or.inl ⟨rfl, (dg dc32 3 rfl)⟩)) rfl rfl (rk1 (LOC.st (Nat.le_of_ble_eq_true rfl) rfl) rfl) rfl (fun _ r9 => tape_tookWord_ok (Z := Z) (d := e9) (by omega) (by decide)  r9) hf (fun z_3 M_2 he_1 hf => ?_)
  refine ex_if (t := 41) (dg dc32 4 rfl) rfl hf (fun _ hf => ?_) (fun _ hf => ?_)
  · refine ex_pu (ls' := [vR 82, vI v1, vU]) (st' := [vR 82]) (dg dc32 20 rfl) rfl rfl ?_
    refine ex_getF (dg dc32 21 rfl) rfl (LOC.st (Nat.le_of_ble_eq_true rfl) rfl) rfl ?_
    refine ex_pu (ls' := [vR 82, vI v1, vU]) (st' := [vI 40, vR 1]) (dg dc32 22 rfl) rfl rfl ?_
    refine ex_cI (vs := [vR 1, vI 40]) (st' := []) (F := (tape_tookMark 40 M_2)) (Or.inr (Or.inl ⟨rfl, (dg dc32 23 rfl)⟩)) rfl rfl (rk1 (LOC.st (Nat.le_of_ble_eq_true rfl) rfl) rfl) rfl (fun _ r9 => tape_tookMark_ok (Z := Z) (d := e9) (by omega)  r9) hf (fun z_6 M_5 he_4 hf => ?_)
    refine ex_if (t := 91) (dg dc32 24 rfl) rfl hf (fun _ hf => ?_) (fun _ hf => ?_)
    · refine ex_pu (ls' := [vR 82, vI v1, vU]) (st' := [vR 82]) (dg dc32 44 rfl) rfl rfl ?_
      refine ex_getF (dg dc32 45 rfl) rfl (LOC.st (Nat.le_of_ble_eq_true rfl) rfl) rfl ?_
      refine ex_ldcT (dg dc32 46 rfl) rfl ?_
      refine ex_cI (vs := [vR 1, vR (E0 + 2 + 2 * 22)]) (st' := []) (F := (tape_tookWord 22 M_5)) (Or.inr (Or.inl ⟨rfl, (dg dc32 47 rfl)⟩)) rfl rfl (rk1 (LOC.st (Nat.le_of_ble_eq_true rfl) rfl) rfl) rfl (fun _ r9 => tape_tookWord_ok (Z := Z) (d := e9) (by omega) (by decide)  r9) hf (fun z_9 M_8 he_7 hf => ?_)
      refine ex_if (t := 116) (dg dc32 48 rfl) rfl hf (fun _ hf => ?_) (fun _ hf => ?_)
      · refine ex_pu (ls' := [vR 82, vI v1, vU]) (st' := [vR 82]) (dg dc32 54 rfl) rfl rfl ?_
        refine ex_cV (vs := [vR 82]) (st' := []) (F := (lawr_readSum  M_8)) (Or.inr (Or.inl ⟨rfl, (dg dc32 55 rfl)⟩)) rfl rfl (rk1 (LOC.st (Nat.le_of_ble_eq_true rfl) rfl) rfl) rfl (fun _ r9 => lawr_readSum_ok (Z := Z) (d := e9) (by omega)  r9) hf (fun M_11 he_10 hf => ?_)
        refine ex_pu (ls' := [vR 82, vI v1, vU]) (st' := [vR 82]) (dg dc32 56 rfl) rfl rfl ?_
        refine ex_cI (vs := [vR 82]) (st' := []) (F := (lawr_readComparison  M_11)) (Or.inr (Or.inl ⟨rfl, (dg dc32 57 rfl)⟩)) rfl rfl (rk1 (LOC.st (Nat.le_of_ble_eq_true rfl) rfl) rfl) rfl (fun _ r9 => lawr_readComparison_ok (Z := Z) (d := e9) (by omega)  r9) hf (fun z_15 M_14 he_13 hf => ?_)
        refine ex_pu (ls' := [vR 82, vI v1, vI z_15]) (st' := []) (dg dc32 58 rfl) rfl rfl ?_
        refine ex_pu (ls' := [vR 82, vI v1, vI z_15]) (st' := [vR 82]) (dg dc32 59 rfl) rfl rfl ?_
        refine ex_cV (vs := [vR 82]) (st' := []) (F := (lawr_readSum  M_14)) (Or.inr (Or.inl ⟨rfl, (dg dc32 60 rfl)⟩)) rfl rfl (rk1 (LOC.st (Nat.le_of_ble_eq_true rfl) rfl) rfl) rfl (fun _ r9 => lawr_readSum_ok (Z := Z) (d := e9) (by omega)  r9) hf (fun M_17 he_16 hf => ?_)
        refine ex_pu (ls' := [vR 82, vI v1, vI z_15]) (st' := [vR 82]) (dg dc32 61 rfl) rfl rfl ?_
        refine ex_getF (dg dc32 62 rfl) rfl (LOC.st (Nat.le_of_ble_eq_true rfl) rfl) rfl ?_
        refine ex_pu (ls' := [vR 82, vI v1, vI z_15]) (st' := [vI z_15, vR 43]) (dg dc32 63 rfl) rfl rfl ?_
        refine ex_cV (vs := [vR 43, vI z_15]) (st' := []) (F := (law_append 43 z_15 M_17)) (Or.inr (Or.inl ⟨rfl, (dg dc32 64 rfl)⟩)) rfl rfl (rk1 (LOC.st (Nat.le_of_ble_eq_true rfl) rfl) rfl) rfl (fun _ r9 => law_append_ok (Z := Z) (d := e9) (by omega) isLaw43  r9) hf (fun M_20 he_19 hf => ?_)
        exact ex_vre (dg dc32 65 rfl) rfl hf
      · refine ex_pu (ls' := [vR 82, vI v1, vU]) (st' := [vR 82]) (dg dc32 49 rfl) rfl rfl ?_
        refine ex_getF (dg dc32 50 rfl) rfl (LOC.st (Nat.le_of_ble_eq_true rfl) rfl) rfl ?_
        refine ex_pu (ls' := [vR 82, vI v1, vU]) (st' := [vI 1007, vR 43]) (dg dc32 51 rfl) rfl rfl ?_
        refine ex_cV (vs := [vR 43, vI 1007]) (st' := []) (F := (law_append 43 1007 M_8)) (Or.inr (Or.inl ⟨rfl, (dg dc32 52 rfl)⟩)) rfl rfl (rk1 (LOC.st (Nat.le_of_ble_eq_true rfl) rfl) rfl) rfl (fun _ r9 => law_append_ok (Z := Z) (d := e9) (by omega) isLaw43  r9) hf (fun M_23 he_22 hf => ?_)
        refine ex_goto (t := 137) (dg dc32 53 rfl) rfl rfl ?_
        exact ex_vre (dg dc32 65 rfl) rfl hf
    · refine ex_pu (ls' := [vR 82, vI v1, vU]) (st' := [vR 82]) (dg dc32 25 rfl) rfl rfl ?_
      refine ex_pu (ls' := [vR 82, vI v1, vU]) (st' := [vI v1, vR 82]) (dg dc32 26 rfl) rfl rfl ?_
      refine ex_cI (vs := [vR 82, vI v1]) (st' := []) (F := (lawr_isTooDeep v1 M_5)) (Or.inr (Or.inl ⟨rfl, (dg dc32 27 rfl)⟩)) rfl rfl (rk1 (LOC.st (Nat.le_of_ble_eq_true rfl) rfl) rfl) rfl (fun _ r9 => lawr_isTooDeep_ok (Z := Z) (d := e9) (by omega)  r9) hf (fun z_27 M_26 he_25 hf => ?_)
      refine ex_if (t := 62) (dg dc32 28 rfl) rfl hf (fun _ hf => ?_) (fun _ hf => ?_)
      · refine ex_pu (ls' := [vR 82, vI v1, vU]) (st' := [vR 82]) (dg dc32 30 rfl) rfl rfl ?_
        refine ex_pu (ls' := [vR 82, vI v1, vU]) (st' := [vI v1, vR 82]) (dg dc32 31 rfl) rfl rfl ?_
        refine ex_pu (ls' := [vR 82, vI v1, vU]) (st' := [vI 1, vI v1, vR 82]) (dg dc32 32 rfl) rfl rfl ?_
        refine ex_pu (ls' := [vR 82, vI v1, vU]) (st' := [vI (v1 + 1), vR 82]) (dg dc32 33 rfl) rfl rfl ?_
        refine ex_cV (vs := [vR 82, vI (v1 + 1)]) (st' := []) (F := (lawr_readChoice R (v1 + 1) M_26)) (Or.inr (Or.inl ⟨rfl, (dg dc32 34 rfl)⟩)) rfl rfl (rk1 (LOC.st (Nat.le_of_ble_eq_true rfl) rfl) rfl) rfl (fun _ r9 => lawr_readChoice_ok (Z := Z) (d := e9) (by omega) (by omega) hR  r9) hf (fun M_29 he_28 hf => ?_)
        refine ex_pu (ls' := [vR 82, vI v1, vU]) (st' := [vR 82]) (dg dc32 35 rfl) rfl rfl ?_
        refine ex_getF (dg dc32 36 rfl) rfl (LOC.st (Nat.le_of_ble_eq_true rfl) rfl) rfl ?_
        refine ex_pu (ls' := [vR 82, vI v1, vU]) (st' := [vI 41, vR 1]) (dg dc32 37 rfl) rfl rfl ?_
        refine ex_cI (vs := [vR 1, vI 41]) (st' := []) (F := (tape_tookMark 41 M_29)) (Or.inr (Or.inl ⟨rfl, (dg dc32 38 rfl)⟩)) rfl rfl (rk1 (LOC.st (Nat.le_of_ble_eq_true rfl) rfl) rfl) rfl (fun _ r9 => tape_tookMark_ok (Z := Z) (d := e9) (by omega)  r9) hf (fun z_33 M_32 he_31 hf => ?_)
        refine ex_if (t := 137) (dg dc32 39 rfl) rfl hf (fun _ hf => ?_) (fun _ hf => ?_)
        · exact ex_vre (dg dc32 65 rfl) rfl hf
        · refine ex_pu (ls' := [vR 82, vI v1, vU]) (st' := [vR 82]) (dg dc32 40 rfl) rfl rfl ?_
          refine ex_getF (dg dc32 41 rfl) rfl (LOC.st (Nat.le_of_ble_eq_true rfl) rfl) rfl ?_
          refine ex_cV (vs := [vR 1]) (st' := []) (F := (tape_fail  M_32)) (Or.inr (Or.inl ⟨rfl, (dg dc32 42 rfl)⟩)) rfl rfl (rk1 (LOC.st (Nat.le_of_ble_eq_true rfl) rfl) rfl) rfl (fun _ r9 => tape_fail_ok (Z := Z) (d := e9) (by omega)  r9) hf (fun M_35 he_34 hf => ?_)
          refine ex_goto (t := 137) (dg dc32 43 rfl) rfl rfl ?_
          exact ex_vre (dg dc32 65 rfl) rfl hf
      · exact ex_vre (dg dc32 29 rfl) rfl hf
  · refine ex_pu (ls' := [vR 82, vI v1, vU]) (st' := [vR 82]) (dg dc32 5 rfl) rfl rfl ?_
    refine ex_pu (ls' := [vR 82, vI v1, vU]) (st' := [vI v1, vR 82]) (dg dc32 6 rfl) rfl rfl ?_
    refine ex_cI (vs := [vR 82, vI v1]) (st' := []) (F := (lawr_isTooDeep v1 M_2)) (Or.inr (Or.inl ⟨rfl, (dg dc32 7 rfl)⟩)) rfl rfl (rk1 (LOC.st (Nat.le_of_ble_eq_true rfl) rfl) rfl) rfl (fun _ r9 => lawr_isTooDeep_ok (Z := Z) (d := e9) (by omega)  r9) hf (fun z_39 M_38 he_37 hf => ?_)
    refine ex_if (t := 21) (dg dc32 8 rfl) rfl hf (fun _ hf => ?_) (fun _ hf => ?_)
    · refine ex_pu (ls' := [vR 82, vI v1, vU]) (st' := [vR 82]) (dg dc32 10 rfl) rfl rfl ?_
      refine ex_pu (ls' := [vR 82, vI v1, vU]) (st' := [vI v1, vR 82]) (dg dc32 11 rfl) rfl rfl ?_
      refine ex_pu (ls' := [vR 82, vI v1, vU]) (st' := [vI 1, vI v1, vR 82]) (dg dc32 12 rfl) rfl rfl ?_
      refine ex_pu (ls' := [vR 82, vI v1, vU]) (st' := [vI (v1 + 1), vR 82]) (dg dc32 13 rfl) rfl rfl ?_
      refine ex_cV (vs := [vR 82, vI (v1 + 1)]) (st' := []) (F := (R (v1 + 1) M_38)) (Or.inr (Or.inl ⟨rfl, (dg dc32 14 rfl)⟩)) rfl rfl (rk1 (LOC.st (Nat.le_of_ble_eq_true rfl) rfl) rfl) rfl (fun _ r9 => hR (by omega) r9) hf (fun M_41 he_40 hf => ?_)
      refine ex_pu (ls' := [vR 82, vI v1, vU]) (st' := [vR 82]) (dg dc32 15 rfl) rfl rfl ?_
      refine ex_getF (dg dc32 16 rfl) rfl (LOC.st (Nat.le_of_ble_eq_true rfl) rfl) rfl ?_
      refine ex_pu (ls' := [vR 82, vI v1, vU]) (st' := [vI 1008, vR 43]) (dg dc32 17 rfl) rfl rfl ?_
      refine ex_cV (vs := [vR 43, vI 1008]) (st' := []) (F := (law_append 43 1008 M_41)) (Or.inr (Or.inl ⟨rfl, (dg dc32 18 rfl)⟩)) rfl rfl (rk1 (LOC.st (Nat.le_of_ble_eq_true rfl) rfl) rfl) rfl (fun _ r9 => law_append_ok (Z := Z) (d := e9) (by omega) isLaw43  r9) hf (fun M_44 he_43 hf => ?_)
      refine ex_goto (t := 137) (dg dc32 19 rfl) rfl rfl ?_
      exact ex_vre (dg dc32 65 rfl) rfl hf
    · exact ex_vre (dg dc32 9 rfl) rfl hf
def lawr_readAtom_F : Nat → Int → MM → OR
  | 0, _, _ => none
  | n + 1, u0, M => lawr_readAtom (lawr_readAtom_F n) u0 M
theorem lawr_readAtom_F_ok {Z : Nat × (Nat → Int)} : ∀ (n : Nat) {d : Nat}, 7 + 3 * n ≤ d → ∀ {u0 : Int} {M : MM} {r : AR × MM}, lawr_readAtom_F n u0 M = some r → EX Z d 32 0 (ent 32 [vR 82, vI u0]) [] M r := by
  intro n
  induction n with
  | zero =>
    intro d hd u0 M r hf
    unfold lawr_readAtom_F at hf
    cases hf
  | succ n ih =>
    intro d hd u0 M r hf
    unfold lawr_readAtom_F at hf
    exact lawr_readAtom_ok (by omega) (E9 := 7 + 3 * n) (by omega) (fun he => fun hr => ih he hr) hf
-- GlassHill$Search.run
def il52 : List (Nat × Instr × Nat) := [(0, .aload_n 0, 1), (1, .getfield 19, 3), (4, .iload_n 1, 1), (5, .if_icmp .ne 4, 3), (8, .return_, 1), (9, .aload_n 0, 1), (10, .iload_n 1, 1), (11, .putfield 19, 3), (14, .aload_n 0, 1), (15, .invokevirtual 48, 3), (18, .aload_n 0, 1), (19, .aload_n 0, 1), (20, .invokevirtual 51, 3), (23, .invokevirtual 55, 3), (26, .iconst 0, 1), (27, .istore_n 2, 1), (28, .iload_n 2, 1), (29, .sipush 6000, 3), (32, .if_icmp .ge 90, 3), (35, .iload_n 2, 1), (36, .aload_n 0, 1), (37, .getfield 11, 3), (40, .if_icmp .ge 82, 3), (43, .aload_n 0, 1), (44, .getfield 15, 3), (47, .ifCond .ne 75, 3), (50, .aload_n 0, 1), (51, .getfield 22, 3), (54, .iload_n 2, 1), (55, .laload, 1), (56, .lstore_n 3, 1), (57, .aload_n 0, 1), (58, .lload_n 3, 1), (59, .invokestatic 59, 3), (62, .putfield 63, 3), (65, .aload_n 0, 1), (66, .lload_n 3, 1), (67, .invokestatic 66, 3), (70, .putfield 69, 3), (73, .aload_n 0, 1), (74, .lload_n 3, 1), (75, .l2i, 1), (76, .sipush 1023, 3), (79, .iand, 1), (80, .putfield 72, 3), (83, .aload_n 0, 1), (84, .lload_n 3, 1), (85, .invokestatic 75, 3), (88, .putfield 78, 3), (91, .aload_n 0, 1), (92, .lload_n 3, 1), (93, .invokevirtual 81, 3), (96, .aload_n 0, 1), (97, .lload_n 3, 1), (98, .invokevirtual 84, 3), (101, .aload_n 0, 1), (102, .lload_n 3, 1), (103, .invokevirtual 87, 3), (106, .aload_n 0, 1), (107, .lload_n 3, 1), (108, .invokevirtual 90, 3), (111, .aload_n 0, 1), (112, .lload_n 3, 1), (113, .invokevirtual 93, 3), (116, .iinc 2 1, 3), (119, .goto (-91), 3), (122, .return_, 1)]
theorem dc52 : dcs (mC 52) il52 := dc_of (by decide +kernel)
def srch_run_L28 (q : Nat) (K1 : MM → OR) : Nat → Int → MM → OR
  | 0, _, _ => none
  | n + 1, v2, M => (bif cmpB .ge v2 6000 then (K1  M) else (bif cmpB .ge v2 (M 1000 3) then (K1  M) else (bif cmpB .ne (M 1000 4) 0 then (K1  M) else (bif inB v2 6000 then (bI (srch_hoursOf (M 1001 (v2).toNat) M) fun z_18 M_17 => (sM (mU M_17 1000 10 z_18) fun M_20 => (bI (srch_placeOf (M 1001 (v2).toNat) M_20) fun z_25 M_24 => (sM (mU M_24 1000 11 z_25) fun M_27 => (sM (mU M_27 1000 12 (iAnd (M 1001 (v2).toNat) 1023)) fun M_30 => (bI (srch_passedOf (M 1001 (v2).toNat) M_30) fun z_35 M_34 => (sM (mU M_34 1000 13 z_35) fun M_37 => (bV (srch_addRoads q (M 1001 (v2).toNat) M_37) fun M_41 => (bV (srch_addWait q (M 1001 (v2).toNat) M_41) fun M_45 => (bV (srch_addPays q (M 1001 (v2).toNat) M_45) fun M_49 => (bV (srch_addTakes q (M 1001 (v2).toNat) M_49) fun M_53 => (bV (srch_addFrees q (M 1001 (v2).toNat) M_53) fun M_57 => (srch_run_L28 q K1 n (v2 + 1) M_57))))))))))))) else none))))
set_option maxRecDepth 4000 in
theorem srch_run_L28_ok {Z : Nat × (Nat → Int)} {d : Nat} (hd : 5 ≤ d) {q : Nat} (h0 : q ≠ 0) {K1 : MM → OR} {res : AR × MM} (k1 : ∀ (M : MM) (j0 j1 j2 j3 j4 : AV), M 0 17 = (q : Int) → K1  M = some res → EX Z d 52 122 [j0, j1, j2, j3, j4] [] M res) : ∀ (n : Nat) (v2 : Int) (M : MM) (j1 j3 j4 : AV), M 0 17 = (q : Int) → srch_run_L28 q K1 n v2 M = some res → EX Z d 52 28 [vR q, j1, vI v2, j3, j4] [] M res := by
  obtain ⟨e9, rfl⟩ : ∃ e9, d = e9 + 1 := ⟨d - 1, by omega⟩
  have hq0 : (q : Int) ≠ 0 := by omega
  intro n
  induction n with
  | zero =>
    intro v2 M j1 j3 j4 hq hf
    unfold srch_run_L28 at hf
    cases hf
  | succ n ih =>
    intro v2 M j1 j3 j4 hq hf
    unfold srch_run_L28 at hf
    refine ex_pu (ls' := [vR q, j1, vI v2, j3, j4]) (st' := [vI v2]) (dg dc52 16 rfl) rfl rfl ?_
    refine ex_pu (ls' := [vR q, j1, vI v2, j3, j4]) (st' := [vI 6000, vI v2]) (dg dc52 17 rfl) rfl rfl ?_
    refine ex_icmp (t := 122) (dg dc52 18 rfl) rfl hf (fun _ hf => ?_) (fun _ hf => ?_)
    · exact k1  M _ _ _ _ _ hq hf
    · refine ex_pu (ls' := [vR q, j1, vI v2, j3, j4]) (st' := [vI v2]) (dg dc52 19 rfl) rfl rfl ?_
      refine ex_pu (ls' := [vR q, j1, vI v2, j3, j4]) (st' := [vR q, vI v2]) (dg dc52 20 rfl) rfl rfl ?_
      refine ex_getI (dg dc52 21 rfl) rfl (LOC.sr (j := 0) hq h0 (by decide) rfl) rfl ?_
      refine ex_icmp (t := 122) (dg dc52 22 rfl) rfl hf (fun _ hf => ?_) (fun _ hf => ?_)
      · exact k1  M _ _ _ _ _ hq hf
      · refine ex_pu (ls' := [vR q, j1, vI v2, j3, j4]) (st' := [vR q]) (dg dc52 23 rfl) rfl rfl ?_
        refine ex_getI (dg dc52 24 rfl) rfl (LOC.sr (j := 0) hq h0 (by decide) rfl) rfl ?_
        refine ex_if (t := 122) (dg dc52 25 rfl) rfl hf (fun _ hf => ?_) (fun _ hf => ?_)
        · exact k1  M _ _ _ _ _ hq hf
        · refine ex_pu (ls' := [vR q, j1, vI v2, j3, j4]) (st' := [vR q]) (dg dc52 26 rfl) rfl rfl ?_
          refine ex_getO (dg dc52 27 rfl) rfl (LOC.sr (j := 0) hq h0 (by decide) rfl) rfl ?_
          show EX Z _ 52 _ [vR q, j1, vI v2, j3, j4] [vR (q + 1)] _ _
          refine ex_pu (ls' := [vR q, j1, vI v2, j3, j4]) (st' := [vI v2, vR (q + 1)]) (dg dc52 28 rfl) rfl rfl ?_
          refine ex_lald (dg dc52 29 rfl) (LOC.sr (j := 1) hq h0 (by decide) rfl) rfl hf (fun _ hf => ?_)
          refine ex_pu (ls' := [vR q, j1, vI v2, vJ (M 1001 (v2).toNat), vU]) (st' := []) (dg dc52 30 rfl) rfl rfl ?_
          refine ex_pu (ls' := [vR q, j1, vI v2, vJ (M 1001 (v2).toNat), vU]) (st' := [vR q]) (dg dc52 31 rfl) rfl rfl ?_
          refine ex_pu (ls' := [vR q, j1, vI v2, vJ (M 1001 (v2).toNat), vU]) (st' := [vJ (M 1001 (v2).toNat), vR q]) (dg dc52 32 rfl) rfl rfl ?_
          refine ex_cI (vs := [vJ (M 1001 (v2).toNat)]) (st' := [vR q]) (F := (srch_hoursOf (M 1001 (v2).toNat) M)) (Or.inl ⟨rfl, (dg dc52 33 rfl)⟩) rfl rfl (Or.inl rfl) rfl (fun _ r9 => srch_hoursOf_ok (Z := Z) (d := e9) (by omega)  r9) hf (fun z_18 M_17 he_16 hf => ?_)
          have hq_19 : M_17 0 17 = (q : Int) := ((srch_hoursOf_ok (Z := Z) (d := e9) (by omega)  he_16).1 (by rw [hq]; exact hq0)).trans hq
          refine ex_putI (dg dc52 34 rfl) rfl (LOC.sr (j := 0) hq_19 h0 (by decide) rfl) rfl rfl rfl ?_
          refine ex_gen hf (fun M_20 hM_21 hf => ?_)
          have hq_22 : M_20 0 17 = (q : Int) := by rw [hM_21]; exact hq_19
          refine ex_pu (ls' := [vR q, j1, vI v2, vJ (M 1001 (v2).toNat), vU]) (st' := [vR q]) (dg dc52 35 rfl) rfl rfl ?_
          refine ex_pu (ls' := [vR q, j1, vI v2, vJ (M 1001 (v2).toNat), vU]) (st' := [vJ (M 1001 (v2).toNat), vR q]) (dg dc52 36 rfl) rfl rfl ?_
          refine ex_cI (vs := [vJ (M 1001 (v2).toNat)]) (st' := [vR q]) (F := (srch_placeOf (M 1001 (v2).toNat) M_20)) (Or.inl ⟨rfl, (dg dc52 37 rfl)⟩) rfl rfl (Or.inl rfl) rfl (fun _ r9 => srch_placeOf_ok (Z := Z) (d := e9) (by omega)  r9) hf (fun z_25 M_24 he_23 hf => ?_)
          have hq_26 : M_24 0 17 = (q : Int) := ((srch_placeOf_ok (Z := Z) (d := e9) (by omega)  he_23).1 (by rw [hq_22]; exact hq0)).trans hq_22
          refine ex_putI (dg dc52 38 rfl) rfl (LOC.sr (j := 0) hq_26 h0 (by decide) rfl) rfl rfl rfl ?_
          refine ex_gen hf (fun M_27 hM_28 hf => ?_)
          have hq_29 : M_27 0 17 = (q : Int) := by rw [hM_28]; exact hq_26
          refine ex_pu (ls' := [vR q, j1, vI v2, vJ (M 1001 (v2).toNat), vU]) (st' := [vR q]) (dg dc52 39 rfl) rfl rfl ?_
          refine ex_pu (ls' := [vR q, j1, vI v2, vJ (M 1001 (v2).toNat), vU]) (st' := [vJ (M 1001 (v2).toNat), vR q]) (dg dc52 40 rfl) rfl rfl ?_
          refine ex_pu (ls' := [vR q, j1, vI v2, vJ (M 1001 (v2).toNat), vU]) (st' := [vI (M 1001 (v2).toNat), vR q]) (dg dc52 41 rfl) rfl rfl ?_
          refine ex_pu (ls' := [vR q, j1, vI v2, vJ (M 1001 (v2).toNat), vU]) (st' := [vI 1023, vI (M 1001 (v2).toNat), vR q]) (dg dc52 42 rfl) rfl rfl ?_
          refine ex_pu (ls' := [vR q, j1, vI v2, vJ (M 1001 (v2).toNat), vU]) (st' := [vI (iAnd (M 1001 (v2).toNat) 1023), vR q]) (dg dc52 43 rfl) rfl rfl ?_
          refine ex_putI (dg dc52 44 rfl) rfl (LOC.sr (j := 0) hq_29 h0 (by decide) rfl) rfl rfl rfl ?_
          refine ex_gen hf (fun M_30 hM_31 hf => ?_)
          have hq_32 : M_30 0 17 = (q : Int) := by rw [hM_31]; exact hq_29
          refine ex_pu (ls' := [vR q, j1, vI v2, vJ (M 1001 (v2).toNat), vU]) (st' := [vR q]) (dg dc52 45 rfl) rfl rfl ?_
          refine ex_pu (ls' := [vR q, j1, vI v2, vJ (M 1001 (v2).toNat), vU]) (st' := [vJ (M 1001 (v2).toNat), vR q]) (dg dc52 46 rfl) rfl rfl ?_
          refine ex_cI (vs := [vJ (M 1001 (v2).toNat)]) (st' := [vR q]) (F := (srch_passedOf (M 1001 (v2).toNat) M_30)) (Or.inl ⟨rfl, (dg dc52 47 rfl)⟩) rfl rfl (Or.inl rfl) rfl (fun _ r9 => srch_passedOf_ok (Z := Z) (d := e9) (by omega)  r9) hf (fun z_35 M_34 he_33 hf => ?_)
          have hq_36 : M_34 0 17 = (q : Int) := ((srch_passedOf_ok (Z := Z) (d := e9) (by omega)  he_33).1 (by rw [hq_32]; exact hq0)).trans hq_32
          refine ex_putI (dg dc52 48 rfl) rfl (LOC.sr (j := 0) hq_36 h0 (by decide) rfl) rfl rfl rfl ?_
          refine ex_gen hf (fun M_37 hM_38 hf => ?_)
          have hq_39 : M_37 0 17 = (q : Int) := by rw [hM_38]; exact hq_36
          refine ex_pu (ls' := [vR q, j1, vI v2, vJ (M 1001 (v2).toNat), vU]) (st' := [vR q]) (dg dc52 49 rfl) rfl rfl ?_
          refine ex_pu (ls' := [vR q, j1, vI v2, vJ (M 1001 (v2).toNat), vU]) (st' := [vJ (M 1001 (v2).toNat), vR q]) (dg dc52 50 rfl) rfl rfl ?_
          refine ex_cV (vs := [vR q, vJ (M 1001 (v2).toNat)]) (st' := []) (F := (srch_addRoads q (M 1001 (v2).toNat) M_37)) (Or.inr (Or.inl ⟨rfl, (dg dc52 51 rfl)⟩)) rfl rfl (rk1 (LOC.sr (j := 0) hq_39 h0 (by decide) rfl) rfl) rfl (fun _ r9 => srch_addRoads_ok (Z := Z) (d := e9) (by omega) hq_39 h0  r9) hf (fun M_41 he_40 hf => ?_)
          have hq_43 : M_41 0 17 = (q : Int) := ((srch_addRoads_ok (Z := Z) (d := e9) (by omega) hq_39 h0  he_40).1 (by rw [hq_39]; exact hq0)).trans hq_39
          refine ex_pu (ls' := [vR q, j1, vI v2, vJ (M 1001 (v2).toNat), vU]) (st' := [vR q]) (dg dc52 52 rfl) rfl rfl ?_
          refine ex_pu (ls' := [vR q, j1, vI v2, vJ (M 1001 (v2).toNat), vU]) (st' := [vJ (M 1001 (v2).toNat), vR q]) (dg dc52 53 rfl) rfl rfl ?_
          refine ex_cV (vs := [vR q, vJ (M 1001 (v2).toNat)]) (st' := []) (F := (srch_addWait q (M 1001 (v2).toNat) M_41)) (Or.inr (Or.inl ⟨rfl, (dg dc52 54 rfl)⟩)) rfl rfl (rk1 (LOC.sr (j := 0) hq_43 h0 (by decide) rfl) rfl) rfl (fun _ r9 => srch_addWait_ok (Z := Z) (d := e9) (by omega) hq_43 h0  r9) hf (fun M_45 he_44 hf => ?_)
          have hq_47 : M_45 0 17 = (q : Int) := ((srch_addWait_ok (Z := Z) (d := e9) (by omega) hq_43 h0  he_44).1 (by rw [hq_43]; exact hq0)).trans hq_43
          refine ex_pu (ls' := [vR q, j1, vI v2, vJ (M 1001 (v2).toNat), vU]) (st' := [vR q]) (dg dc52 55 rfl) rfl rfl ?_
          refine ex_pu (ls' := [vR q, j1, vI v2, vJ (M 1001 (v2).toNat), vU]) (st' := [vJ (M 1001 (v2).toNat), vR q]) (dg dc52 56 rfl) rfl rfl ?_
          refine ex_cV (vs := [vR q, vJ (M 1001 (v2).toNat)]) (st' := []) (F := (srch_addPays q (M 1001 (v2).toNat) M_45)) (Or.inr (Or.inl ⟨rfl, (dg dc52 57 rfl)⟩)) rfl rfl (rk1 (LOC.sr (j := 0) hq_47 h0 (by decide) rfl) rfl) rfl (fun _ r9 => srch_addPays_ok (Z := Z) (d := e9) (by omega) hq_47 h0  r9) hf (fun M_49 he_48 hf => ?_)
          have hq_51 : M_49 0 17 = (q : Int) := ((srch_addPays_ok (Z := Z) (d := e9) (by omega) hq_47 h0  he_48).1 (by rw [hq_47]; exact hq0)).trans hq_47
          refine ex_pu (ls' := [vR q, j1, vI v2, vJ (M 1001 (v2).toNat), vU]) (st' := [vR q]) (dg dc52 58 rfl) rfl rfl ?_
          refine ex_pu (ls' := [vR q, j1, vI v2, vJ (M 1001 (v2).toNat), vU]) (st' := [vJ (M 1001 (v2).toNat), vR q]) (dg dc52 59 rfl) rfl rfl ?_
          refine ex_cV (vs := [vR q, vJ (M 1001 (v2).toNat)]) (st' := []) (F := (srch_addTakes q (M 1001 (v2).toNat) M_49)) (Or.inr (Or.inl ⟨rfl, (dg dc52 60 rfl)⟩)) rfl rfl (rk1 (LOC.sr (j := 0) hq_51 h0 (by decide) rfl) rfl) rfl (fun _ r9 => srch_addTakes_ok (Z := Z) (d := e9) (by omega) hq_51 h0  r9) hf (fun M_53 he_52 hf => ?_)
          have hq_55 : M_53 0 17 = (q : Int) := ((srch_addTakes_ok (Z := Z) (d := e9) (by omega) hq_51 h0  he_52).1 (by rw [hq_51]; exact hq0)).trans hq_51
          refine ex_pu (ls' := [vR q, j1, vI v2, vJ (M 1001 (v2).toNat), vU]) (st' := [vR q]) (dg dc52 61 rfl) rfl rfl ?_
          refine ex_pu (ls' := [vR q, j1, vI v2, vJ (M 1001 (v2).toNat), vU]) (st' := [vJ (M 1001 (v2).toNat), vR q]) (dg dc52 62 rfl) rfl rfl ?_
          refine ex_cV (vs := [vR q, vJ (M 1001 (v2).toNat)]) (st' := []) (F := (srch_addFrees q (M 1001 (v2).toNat) M_53)) (Or.inr (Or.inl ⟨rfl, (dg dc52 63 rfl)⟩)) rfl rfl (rk1 (LOC.sr (j := 0) hq_55 h0 (by decide) rfl) rfl) rfl (fun _ r9 => srch_addFrees_ok (Z := Z) (d := e9) (by omega) hq_55 h0  r9) hf (fun M_57 he_56 hf => ?_)
          have hq_59 : M_57 0 17 = (q : Int) := ((srch_addFrees_ok (Z := Z) (d := e9) (by omega) hq_55 h0  he_56).1 (by rw [hq_55]; exact hq0)).trans hq_55
          refine ex_incD (dg dc52 64 rfl) rfl rfl (fun w_60 => ?_)
          show EX Z _ 52 _ [vR q, w_60, vI (v2 + 1), vJ (M 1001 (v2).toNat), vU] [] _ _
          refine ex_goto (t := 28) (dg dc52 65 rfl) rfl rfl ?_
          exact ih (v2 + 1) M_57 _ _ _ hq_59 hf
def srch_run (q : Nat) (v1 : Int) (M : MM) : OR :=
  (bif cmpB .ne (M 1000 5) v1 then (sM (mU M 1000 5 v1) fun M_1 => (bV (srch_prepare q M_1) fun M_5 => (bJ (srch_firstState q M_5) fun z_10 M_9 => (bV (srch_add q z_10 M_9) fun M_13 => (srch_run_L28 q (fun M_61 => some (rV, M_61)) FU 0 M_13))))) else some (rV, M))
set_option maxRecDepth 4000 in
theorem srch_run_ok {Z : Nat × (Nat → Int)} {d : Nat} (hd : 5 ≤ d) {M : MM} {q : Nat} (hq : M 0 17 = (q : Int)) (h0 : q ≠ 0) {v1 : Int} {res : AR × MM} (hf : srch_run q v1 M = some res) : EX Z d 52 0 (ent 52 [vR q, vI v1]) [] M res := by
  obtain ⟨e9, rfl⟩ : ∃ e9, d = e9 + 1 := ⟨d - 1, by omega⟩
  have hq0 : (q : Int) ≠ 0 := by omega
  unfold srch_run at hf
  show EX Z _ 52 0 [vR q, vI v1, vU, vU, vU] [] M res
  refine ex_pu (ls' := [vR q, vI v1, vU, vU, vU]) (st' := [vR q]) (dg dc52 0 rfl) rfl rfl ?_
  refine ex_getI (dg dc52 1 rfl) rfl (LOC.sr (j := 0) hq h0 (by decide) rfl) rfl ?_
  refine ex_pu (ls' := [vR q, vI v1, vU, vU, vU]) (st' := [vI v1, vI (M 1000 5)]) (dg dc52 2 rfl) rfl rfl ?_
  refine ex_icmp (t := 9) (dg dc52 3 rfl) rfl hf (fun _ hf => ?_) (fun _ hf => ?_)
  · refine ex_pu (ls' := [vR q, vI v1, vU, vU, vU]) (st' := [vR q]) (dg dc52 5 rfl) rfl rfl ?_
    refine ex_pu (ls' := [vR q, vI v1, vU, vU, vU]) (st' := [vI v1, vR q]) (dg dc52 6 rfl) rfl rfl ?_
    refine ex_putI (dg dc52 7 rfl) rfl (LOC.sr (j := 0) hq h0 (by decide) rfl) rfl rfl rfl ?_
    refine ex_gen hf (fun M_1 hM_2 hf => ?_)
    have hq_3 : M_1 0 17 = (q : Int) := by rw [hM_2]; exact hq
    refine ex_pu (ls' := [vR q, vI v1, vU, vU, vU]) (st' := [vR q]) (dg dc52 8 rfl) rfl rfl ?_
    refine ex_cV (vs := [vR q]) (st' := []) (F := (srch_prepare q M_1)) (Or.inr (Or.inl ⟨rfl, (dg dc52 9 rfl)⟩)) rfl rfl (rk1 (LOC.sr (j := 0) hq_3 h0 (by decide) rfl) rfl) rfl (fun _ r9 => srch_prepare_ok (Z := Z) (d := e9) (by omega) hq_3 h0  r9) hf (fun M_5 he_4 hf => ?_)
    have hq_7 : M_5 0 17 = (q : Int) := ((srch_prepare_ok (Z := Z) (d := e9) (by omega) hq_3 h0  he_4).1 (by rw [hq_3]; exact hq0)).trans hq_3
    refine ex_pu (ls' := [vR q, vI v1, vU, vU, vU]) (st' := [vR q]) (dg dc52 10 rfl) rfl rfl ?_
    refine ex_pu (ls' := [vR q, vI v1, vU, vU, vU]) (st' := [vR q, vR q]) (dg dc52 11 rfl) rfl rfl ?_
    refine ex_cJ (vs := [vR q]) (st' := [vR q]) (F := (srch_firstState q M_5)) (Or.inr (Or.inl ⟨rfl, (dg dc52 12 rfl)⟩)) rfl rfl (rk1 (LOC.sr (j := 0) hq_7 h0 (by decide) rfl) rfl) rfl (fun _ r9 => srch_firstState_ok (Z := Z) (d := e9) (by omega) hq_7 h0  r9) hf (fun z_10 M_9 he_8 hf => ?_)
    have hq_11 : M_9 0 17 = (q : Int) := ((srch_firstState_ok (Z := Z) (d := e9) (by omega) hq_7 h0  he_8).1 (by rw [hq_7]; exact hq0)).trans hq_7
    refine ex_cV (vs := [vR q, vJ z_10]) (st' := []) (F := (srch_add q z_10 M_9)) (Or.inr (Or.inl ⟨rfl, (dg dc52 13 rfl)⟩)) rfl rfl (rk1 (LOC.sr (j := 0) hq_11 h0 (by decide) rfl) rfl) rfl (fun _ r9 => srch_add_ok (Z := Z) (d := e9) (by omega) hq_11 h0  r9) hf (fun M_13 he_12 hf => ?_)
    have hq_15 : M_13 0 17 = (q : Int) := ((srch_add_ok (Z := Z) (d := e9) (by omega) hq_11 h0  he_12).1 (by rw [hq_11]; exact hq0)).trans hq_11
    refine ex_pu (ls' := [vR q, vI v1, vU, vU, vU]) (st' := [vI 0]) (dg dc52 14 rfl) rfl rfl ?_
    refine ex_pu (ls' := [vR q, vI v1, vI 0, vU, vU]) (st' := []) (dg dc52 15 rfl) rfl rfl ?_
    refine srch_run_L28_ok hd h0 ?_ FU 0 M_13 _ _ _ hq_15 hf
    · intro M_61 j0_63 j1_64 j2_65 j3_66 j4_67 hq_62 hf
      exact ex_vre (dg dc52 66 rfl) rfl hf
  · exact ex_vre (dg dc52 4 rfl) rfl hf
-- GlassHill$TaleReader.readLine
def il76 : List (Nat × Instr × Nat) := [(0, .aload_n 0, 1), (1, .getfield 9, 3), (4, .ldc 45, 2), (6, .invokevirtual 47, 3), (9, .ifCond .eq 10, 3), (12, .aload_n 0, 1), (13, .invokevirtual 51, 3), (16, .goto 86, 3), (19, .aload_n 0, 1), (20, .getfield 9, 3), (23, .ldc 54, 2), (25, .invokevirtual 47, 3), (28, .ifCond .eq 10, 3), (31, .aload_n 0, 1), (32, .invokevirtual 56, 3), (35, .goto 67, 3), (38, .aload_n 0, 1), (39, .getfield 9, 3), (42, .ldc 59, 2), (44, .invokevirtual 47, 3), (47, .ifCond .eq 10, 3), (50, .aload_n 0, 1), (51, .invokevirtual 61, 3), (54, .goto 48, 3), (57, .aload_n 0, 1), (58, .getfield 9, 3), (61, .ldc 64, 2), (63, .invokevirtual 47, 3), (66, .ifCond .eq 10, 3), (69, .aload_n 0, 1), (70, .invokevirtual 66, 3), (73, .goto 29, 3), (76, .aload_n 0, 1), (77, .getfield 9, 3), (80, .ldc 69, 2), (82, .invokevirtual 47, 3), (85, .ifCond .eq 10, 3), (88, .aload_n 0, 1), (89, .invokevirtual 71, 3), (92, .goto 10, 3), (95, .aload_n 0, 1), (96, .getfield 9, 3), (99, .invokevirtual 32, 3), (102, .return_, 1)]
theorem dc76 : dcs (mC 76) il76 := dc_of (by decide +kernel)
def tale_readLine  (M : MM) : OR :=
  (bI (tape_tookWord 0 M) fun z_3 M_2 => (bif cmpB .eq z_3 0 then (bI (tape_tookWord 1 M_2) fun z_6 M_5 => (bif cmpB .eq z_6 0 then (bI (tape_tookWord 4 M_5) fun z_9 M_8 => (bif cmpB .eq z_9 0 then (bI (tape_tookWord 7 M_8) fun z_12 M_11 => (bif cmpB .eq z_12 0 then (bI (tape_tookWord 13 M_11) fun z_15 M_14 => (bif cmpB .eq z_15 0 then (bV (tape_fail  M_14) fun M_17 => some (rV, M_17)) else (bV (tale_readBrother  M_14) fun M_20 => some (rV, M_20)))) else (bV (tale_readKeeper  M_11) fun M_23 => some (rV, M_23)))) else (bV (tale_readRoad  M_8) fun M_26 => some (rV, M_26)))) else (bV (tale_readThing  M_5) fun M_29 => some (rV, M_29)))) else (bV (tale_readPlace  M_2) fun M_32 => some (rV, M_32))))
set_option maxRecDepth 4000 in
theorem tale_readLine_ok {Z : Nat × (Nat → Int)} {d : Nat} (hd : 8 ≤ d) {M : MM}  {res : AR × MM} (hf : tale_readLine  M = some res) : EX Z d 76 0 (ent 76 [vR 81]) [] M res := by
  obtain ⟨e9, rfl⟩ : ∃ e9, d = e9 + 1 := ⟨d - 1, by omega⟩
  unfold tale_readLine at hf
  show EX Z _ 76 0 [vR 81] [] M res
  refine ex_pu (ls' := [vR 81]) (st' := [vR 81]) (dg dc76 0 rfl) rfl rfl ?_
  refine ex_getF (dg dc76 1 rfl) rfl (LOC.st (Nat.le_of_ble_eq_true rfl) rfl) rfl ?_
  refine ex_ldcT (dg dc76 2 rfl) rfl ?_
  refine ex_cI (vs := [vR 1, vR (E0 + 2 + 2 * 0)]) (st' := []) (F := (tape_tookWord 0 M)) (Or.inr (Or.inl ⟨rfl, (dg dc76 3 rfl)⟩)) rfl rfl (rk1 (LOC.st (Nat.le_of_ble_eq_true rfl) rfl) rfl) rfl (fun _ r9 => tape_tookWord_ok (Z := Z) (d := e9) (by omega) (by decide)  r9) hf (fun z_3 M_2 he_1 hf => ?_)
  refine ex_if (t := 19) (dg dc76 4 rfl) rfl hf (fun _ hf => ?_) (fun _ hf => ?_)
  · refine ex_pu (ls' := [vR 81]) (st' := [vR 81]) (dg dc76 8 rfl) rfl rfl ?_
    refine ex_getF (dg dc76 9 rfl) rfl (LOC.st (Nat.le_of_ble_eq_true rfl) rfl) rfl ?_
    refine ex_ldcT (dg dc76 10 rfl) rfl ?_
    refine ex_cI (vs := [vR 1, vR (E0 + 2 + 2 * 1)]) (st' := []) (F := (tape_tookWord 1 M_2)) (Or.inr (Or.inl ⟨rfl, (dg dc76 11 rfl)⟩)) rfl rfl (rk1 (LOC.st (Nat.le_of_ble_eq_true rfl) rfl) rfl) rfl (fun _ r9 => tape_tookWord_ok (Z := Z) (d := e9) (by omega) (by decide)  r9) hf (fun z_6 M_5 he_4 hf => ?_)
    refine ex_if (t := 38) (dg dc76 12 rfl) rfl hf (fun _ hf => ?_) (fun _ hf => ?_)
    · refine ex_pu (ls' := [vR 81]) (st' := [vR 81]) (dg dc76 16 rfl) rfl rfl ?_
      refine ex_getF (dg dc76 17 rfl) rfl (LOC.st (Nat.le_of_ble_eq_true rfl) rfl) rfl ?_
      refine ex_ldcT (dg dc76 18 rfl) rfl ?_
      refine ex_cI (vs := [vR 1, vR (E0 + 2 + 2 * 4)]) (st' := []) (F := (tape_tookWord 4 M_5)) (Or.inr (Or.inl ⟨rfl, (dg dc76 19 rfl)⟩)) rfl rfl (rk1 (LOC.st (Nat.le_of_ble_eq_true rfl) rfl) rfl) rfl (fun _ r9 => tape_tookWord_ok (Z := Z) (d := e9) (by omega) (by decide)  r9) hf (fun z_9 M_8 he_7 hf => ?_)
      refine ex_if (t := 57) (dg dc76 20 rfl) rfl hf (fun _ hf => ?_) (fun _ hf => ?_)
      · refine ex_pu (ls' := [vR 81]) (st' := [vR 81]) (dg dc76 24 rfl) rfl rfl ?_
        refine ex_getF (dg dc76 25 rfl) rfl (LOC.st (Nat.le_of_ble_eq_true rfl) rfl) rfl ?_
        refine ex_ldcT (dg dc76 26 rfl) rfl ?_
        refine ex_cI (vs := [vR 1, vR (E0 + 2 + 2 * 7)]) (st' := []) (F := (tape_tookWord 7 M_8)) (Or.inr (Or.inl ⟨rfl, (dg dc76 27 rfl)⟩)) rfl rfl (rk1 (LOC.st (Nat.le_of_ble_eq_true rfl) rfl) rfl) rfl (fun _ r9 => tape_tookWord_ok (Z := Z) (d := e9) (by omega) (by decide)  r9) hf (fun z_12 M_11 he_10 hf => ?_)
        refine ex_if (t := 76) (dg dc76 28 rfl) rfl hf (fun _ hf => ?_) (fun _ hf => ?_)
        · refine ex_pu (ls' := [vR 81]) (st' := [vR 81]) (dg dc76 32 rfl) rfl rfl ?_
          refine ex_getF (dg dc76 33 rfl) rfl (LOC.st (Nat.le_of_ble_eq_true rfl) rfl) rfl ?_
          refine ex_ldcT (dg dc76 34 rfl) rfl ?_
          refine ex_cI (vs := [vR 1, vR (E0 + 2 + 2 * 13)]) (st' := []) (F := (tape_tookWord 13 M_11)) (Or.inr (Or.inl ⟨rfl, (dg dc76 35 rfl)⟩)) rfl rfl (rk1 (LOC.st (Nat.le_of_ble_eq_true rfl) rfl) rfl) rfl (fun _ r9 => tape_tookWord_ok (Z := Z) (d := e9) (by omega) (by decide)  r9) hf (fun z_15 M_14 he_13 hf => ?_)
          refine ex_if (t := 95) (dg dc76 36 rfl) rfl hf (fun _ hf => ?_) (fun _ hf => ?_)
          · refine ex_pu (ls' := [vR 81]) (st' := [vR 81]) (dg dc76 40 rfl) rfl rfl ?_
            refine ex_getF (dg dc76 41 rfl) rfl (LOC.st (Nat.le_of_ble_eq_true rfl) rfl) rfl ?_
            refine ex_cV (vs := [vR 1]) (st' := []) (F := (tape_fail  M_14)) (Or.inr (Or.inl ⟨rfl, (dg dc76 42 rfl)⟩)) rfl rfl (rk1 (LOC.st (Nat.le_of_ble_eq_true rfl) rfl) rfl) rfl (fun _ r9 => tape_fail_ok (Z := Z) (d := e9) (by omega)  r9) hf (fun M_17 he_16 hf => ?_)
            exact ex_vre (dg dc76 43 rfl) rfl hf
          · refine ex_pu (ls' := [vR 81]) (st' := [vR 81]) (dg dc76 37 rfl) rfl rfl ?_
            refine ex_cV (vs := [vR 81]) (st' := []) (F := (tale_readBrother  M_14)) (Or.inr (Or.inl ⟨rfl, (dg dc76 38 rfl)⟩)) rfl rfl (rk1 (LOC.st (Nat.le_of_ble_eq_true rfl) rfl) rfl) rfl (fun _ r9 => tale_readBrother_ok (Z := Z) (d := e9) (by omega)  r9) hf (fun M_20 he_19 hf => ?_)
            refine ex_goto (t := 102) (dg dc76 39 rfl) rfl rfl ?_
            exact ex_vre (dg dc76 43 rfl) rfl hf
        · refine ex_pu (ls' := [vR 81]) (st' := [vR 81]) (dg dc76 29 rfl) rfl rfl ?_
          refine ex_cV (vs := [vR 81]) (st' := []) (F := (tale_readKeeper  M_11)) (Or.inr (Or.inl ⟨rfl, (dg dc76 30 rfl)⟩)) rfl rfl (rk1 (LOC.st (Nat.le_of_ble_eq_true rfl) rfl) rfl) rfl (fun _ r9 => tale_readKeeper_ok (Z := Z) (d := e9) (by omega)  r9) hf (fun M_23 he_22 hf => ?_)
          refine ex_goto (t := 102) (dg dc76 31 rfl) rfl rfl ?_
          exact ex_vre (dg dc76 43 rfl) rfl hf
      · refine ex_pu (ls' := [vR 81]) (st' := [vR 81]) (dg dc76 21 rfl) rfl rfl ?_
        refine ex_cV (vs := [vR 81]) (st' := []) (F := (tale_readRoad  M_8)) (Or.inr (Or.inl ⟨rfl, (dg dc76 22 rfl)⟩)) rfl rfl (rk1 (LOC.st (Nat.le_of_ble_eq_true rfl) rfl) rfl) rfl (fun _ r9 => tale_readRoad_ok (Z := Z) (d := e9) (by omega)  r9) hf (fun M_26 he_25 hf => ?_)
        refine ex_goto (t := 102) (dg dc76 23 rfl) rfl rfl ?_
        exact ex_vre (dg dc76 43 rfl) rfl hf
    · refine ex_pu (ls' := [vR 81]) (st' := [vR 81]) (dg dc76 13 rfl) rfl rfl ?_
      refine ex_cV (vs := [vR 81]) (st' := []) (F := (tale_readThing  M_5)) (Or.inr (Or.inl ⟨rfl, (dg dc76 14 rfl)⟩)) rfl rfl (rk1 (LOC.st (Nat.le_of_ble_eq_true rfl) rfl) rfl) rfl (fun _ r9 => tale_readThing_ok (Z := Z) (d := e9) (by omega)  r9) hf (fun M_29 he_28 hf => ?_)
      refine ex_goto (t := 102) (dg dc76 15 rfl) rfl rfl ?_
      exact ex_vre (dg dc76 43 rfl) rfl hf
  · refine ex_pu (ls' := [vR 81]) (st' := [vR 81]) (dg dc76 5 rfl) rfl rfl ?_
    refine ex_cV (vs := [vR 81]) (st' := []) (F := (tale_readPlace  M_2)) (Or.inr (Or.inl ⟨rfl, (dg dc76 6 rfl)⟩)) rfl rfl (rk1 (LOC.st (Nat.le_of_ble_eq_true rfl) rfl) rfl) rfl (fun _ r9 => tale_readPlace_ok (Z := Z) (d := e9) (by omega)  r9) hf (fun M_32 he_31 hf => ?_)
    refine ex_goto (t := 102) (dg dc76 7 rfl) rfl rfl ?_
    exact ex_vre (dg dc76 43 rfl) rfl hf
-- GlassHill$LawReader.readLine
def il29 : List (Nat × Instr × Nat) := [(0, .aload_n 0, 1), (1, .getfield 9, 3), (4, .ldc 51, 2), (6, .invokevirtual 53, 3), (9, .ifCond .eq 16, 3), (12, .aload_n 0, 1), (13, .getfield 15, 3), (16, .getfield 57, 3), (19, .iload_n 1, 1), (20, .iconst (-1), 1), (21, .iastore, 1), (22, .goto 44, 3), (25, .aload_n 0, 1), (26, .getfield 9, 3), (29, .ldc 61, 2), (31, .invokevirtual 53, 3), (34, .ifCond .eq 25, 3), (37, .aload_n 0, 1), (38, .getfield 15, 3), (41, .getfield 57, 3), (44, .iload_n 1, 1), (45, .aload_n 0, 1), (46, .getfield 9, 3), (49, .iconst 0, 1), (50, .bipush 9, 2), (52, .invokevirtual 62, 3), (55, .iastore, 1), (56, .goto 10, 3), (59, .aload_n 0, 1), (60, .getfield 9, 3), (63, .invokevirtual 37, 3), (66, .aload_n 0, 1), (67, .getfield 9, 3), (70, .ldc 66, 2), (72, .invokevirtual 53, 3), (75, .ifCond .eq 8, 3), (78, .aload_n 0, 1), (79, .iconst 0, 1), (80, .invokevirtual 68, 3), (83, .aload_n 0, 1), (84, .getfield 15, 3), (87, .getfield 71, 3), (90, .iload_n 1, 1), (91, .aload_n 0, 1), (92, .getfield 15, 3), (95, .getfield 30, 3), (98, .iastore, 1), (99, .aload_n 0, 1), (100, .getfield 15, 3), (103, .iload_n 1, 1), (104, .iconst 1, 1), (105, .iadd, 1), (106, .putfield 24, 3), (109, .return_, 1)]
theorem dc29 : dcs (mC 29) il29 := dc_of (by decide +kernel)
def lawr_readLine_J66   (v1 : Int) (M : MM) : OR :=
  (bI (tape_tookWord 20 M) fun z_12 M_11 => (bif cmpB .eq z_12 0 then (bif inB v1 12 then (sM (mU M_11 45 (v1).toNat (M_11 43 4)) fun M_13 => (sM (mU M_13 43 0 (v1 + 1)) fun M_15 => some (rV, M_15))) else none) else (bV (lawr_readChoice (lawr_readAtom_F 12) 0 M_11) fun M_18 => (bif inB v1 12 then (sM (mU M_18 45 (v1).toNat (M_18 43 4)) fun M_20 => (sM (mU M_20 43 0 (v1 + 1)) fun M_22 => some (rV, M_22))) else none))))
set_option maxRecDepth 4000 in
theorem lawr_readLine_J66_ok {Z : Nat × (Nat → Int)} {d : Nat} (hd : 47 ≤ d)   {res : AR × MM}  : ∀ (v1 : Int) (M : MM), lawr_readLine_J66   v1 M = some res → EX Z d 29 66 [vR 82, vI v1] [] M res := by
  obtain ⟨e9, rfl⟩ : ∃ e9, d = e9 + 1 := ⟨d - 1, by omega⟩
  intro v1 M hf
  unfold lawr_readLine_J66 at hf
  refine ex_pu (ls' := [vR 82, vI v1]) (st' := [vR 82]) (dg dc29 31 rfl) rfl rfl ?_
  refine ex_getF (dg dc29 32 rfl) rfl (LOC.st (Nat.le_of_ble_eq_true rfl) rfl) rfl ?_
  refine ex_ldcT (dg dc29 33 rfl) rfl ?_
  refine ex_cI (vs := [vR 1, vR (E0 + 2 + 2 * 20)]) (st' := []) (F := (tape_tookWord 20 M)) (Or.inr (Or.inl ⟨rfl, (dg dc29 34 rfl)⟩)) rfl rfl (rk1 (LOC.st (Nat.le_of_ble_eq_true rfl) rfl) rfl) rfl (fun _ r9 => tape_tookWord_ok (Z := Z) (d := e9) (by omega) (by decide)  r9) hf (fun z_12 M_11 he_10 hf => ?_)
  refine ex_if (t := 83) (dg dc29 35 rfl) rfl hf (fun _ hf => ?_) (fun _ hf => ?_)
  · refine ex_pu (ls' := [vR 82, vI v1]) (st' := [vR 82]) (dg dc29 39 rfl) rfl rfl ?_
    refine ex_getF (dg dc29 40 rfl) rfl (LOC.st (Nat.le_of_ble_eq_true rfl) rfl) rfl ?_
    refine ex_getO (dg dc29 41 rfl) rfl (LOC.st (Nat.le_of_ble_eq_true rfl) rfl) rfl ?_
    show EX Z _ 29 _ [vR 82, vI v1] [vR 45] _ _
    refine ex_pu (ls' := [vR 82, vI v1]) (st' := [vI v1, vR 45]) (dg dc29 42 rfl) rfl rfl ?_
    refine ex_pu (ls' := [vR 82, vI v1]) (st' := [vR 82, vI v1, vR 45]) (dg dc29 43 rfl) rfl rfl ?_
    refine ex_getF (dg dc29 44 rfl) rfl (LOC.st (Nat.le_of_ble_eq_true rfl) rfl) rfl ?_
    refine ex_getI (dg dc29 45 rfl) rfl (LOC.st (Nat.le_of_ble_eq_true rfl) rfl) rfl ?_
    refine ex_iast (dg dc29 46 rfl) (LOC.st (Nat.le_of_ble_eq_true rfl) rfl) rfl rfl hf (fun _ hf => ?_)
    refine ex_gen hf (fun M_13 hM_14 hf => ?_)
    refine ex_pu (ls' := [vR 82, vI v1]) (st' := [vR 82]) (dg dc29 47 rfl) rfl rfl ?_
    refine ex_getF (dg dc29 48 rfl) rfl (LOC.st (Nat.le_of_ble_eq_true rfl) rfl) rfl ?_
    refine ex_pu (ls' := [vR 82, vI v1]) (st' := [vI v1, vR 43]) (dg dc29 49 rfl) rfl rfl ?_
    refine ex_pu (ls' := [vR 82, vI v1]) (st' := [vI 1, vI v1, vR 43]) (dg dc29 50 rfl) rfl rfl ?_
    refine ex_pu (ls' := [vR 82, vI v1]) (st' := [vI (v1 + 1), vR 43]) (dg dc29 51 rfl) rfl rfl ?_
    refine ex_putI (dg dc29 52 rfl) rfl (LOC.st (Nat.le_of_ble_eq_true rfl) rfl) rfl rfl rfl ?_
    refine ex_gen hf (fun M_15 hM_16 hf => ?_)
    exact ex_vre (dg dc29 53 rfl) rfl hf
  · refine ex_pu (ls' := [vR 82, vI v1]) (st' := [vR 82]) (dg dc29 36 rfl) rfl rfl ?_
    refine ex_pu (ls' := [vR 82, vI v1]) (st' := [vI 0, vR 82]) (dg dc29 37 rfl) rfl rfl ?_
    refine ex_cV (vs := [vR 82, vI 0]) (st' := []) (F := (lawr_readChoice (lawr_readAtom_F 12) 0 M_11)) (Or.inr (Or.inl ⟨rfl, (dg dc29 38 rfl)⟩)) rfl rfl (rk1 (LOC.st (Nat.le_of_ble_eq_true rfl) rfl) rfl) rfl (fun _ r9 => lawr_readChoice_ok (Z := Z) (d := e9) (by omega) (E9 := 43) (by omega) (fun he => fun hr => lawr_readAtom_F_ok 12 he hr)  r9) hf (fun M_18 he_17 hf => ?_)
    refine ex_pu (ls' := [vR 82, vI v1]) (st' := [vR 82]) (dg dc29 39 rfl) rfl rfl ?_
    refine ex_getF (dg dc29 40 rfl) rfl (LOC.st (Nat.le_of_ble_eq_true rfl) rfl) rfl ?_
    refine ex_getO (dg dc29 41 rfl) rfl (LOC.st (Nat.le_of_ble_eq_true rfl) rfl) rfl ?_
    show EX Z _ 29 _ [vR 82, vI v1] [vR 45] _ _
    refine ex_pu (ls' := [vR 82, vI v1]) (st' := [vI v1, vR 45]) (dg dc29 42 rfl) rfl rfl ?_
    refine ex_pu (ls' := [vR 82, vI v1]) (st' := [vR 82, vI v1, vR 45]) (dg dc29 43 rfl) rfl rfl ?_
    refine ex_getF (dg dc29 44 rfl) rfl (LOC.st (Nat.le_of_ble_eq_true rfl) rfl) rfl ?_
    refine ex_getI (dg dc29 45 rfl) rfl (LOC.st (Nat.le_of_ble_eq_true rfl) rfl) rfl ?_
    refine ex_iast (dg dc29 46 rfl) (LOC.st (Nat.le_of_ble_eq_true rfl) rfl) rfl rfl hf (fun _ hf => ?_)
    refine ex_gen hf (fun M_20 hM_21 hf => ?_)
    refine ex_pu (ls' := [vR 82, vI v1]) (st' := [vR 82]) (dg dc29 47 rfl) rfl rfl ?_
    refine ex_getF (dg dc29 48 rfl) rfl (LOC.st (Nat.le_of_ble_eq_true rfl) rfl) rfl ?_
    refine ex_pu (ls' := [vR 82, vI v1]) (st' := [vI v1, vR 43]) (dg dc29 49 rfl) rfl rfl ?_
    refine ex_pu (ls' := [vR 82, vI v1]) (st' := [vI 1, vI v1, vR 43]) (dg dc29 50 rfl) rfl rfl ?_
    refine ex_pu (ls' := [vR 82, vI v1]) (st' := [vI (v1 + 1), vR 43]) (dg dc29 51 rfl) rfl rfl ?_
    refine ex_putI (dg dc29 52 rfl) rfl (LOC.st (Nat.le_of_ble_eq_true rfl) rfl) rfl rfl rfl ?_
    refine ex_gen hf (fun M_22 hM_23 hf => ?_)
    exact ex_vre (dg dc29 53 rfl) rfl hf
def lawr_readLine (v1 : Int) (M : MM) : OR :=
  (bI (tape_tookWord 18 M) fun z_3 M_2 => (bif cmpB .eq z_3 0 then (bI (tape_tookWord 19 M_2) fun z_6 M_5 => (bif cmpB .eq z_6 0 then (bV (tape_fail  M_5) fun M_8 => (lawr_readLine_J66   v1 M_8)) else (bI (tape_needNumber 0 9 M_5) fun z_26 M_25 => (bif inB v1 12 then (sM (mU M_25 44 (v1).toNat z_26) fun M_27 => (lawr_readLine_J66   v1 M_27)) else none)))) else (bif inB v1 12 then (sM (mU M_2 44 (v1).toNat (-1)) fun M_29 => (lawr_readLine_J66   v1 M_29)) else none)))
set_option maxRecDepth 4000 in
theorem lawr_readLine_ok {Z : Nat × (Nat → Int)} {d : Nat} (hd : 47 ≤ d) {M : MM}  {v1 : Int} {res : AR × MM} (hf : lawr_readLine v1 M = some res) : EX Z d 29 0 (ent 29 [vR 82, vI v1]) [] M res := by
  obtain ⟨e9, rfl⟩ : ∃ e9, d = e9 + 1 := ⟨d - 1, by omega⟩
  unfold lawr_readLine at hf
  show EX Z _ 29 0 [vR 82, vI v1] [] M res
  refine ex_pu (ls' := [vR 82, vI v1]) (st' := [vR 82]) (dg dc29 0 rfl) rfl rfl ?_
  refine ex_getF (dg dc29 1 rfl) rfl (LOC.st (Nat.le_of_ble_eq_true rfl) rfl) rfl ?_
  refine ex_ldcT (dg dc29 2 rfl) rfl ?_
  refine ex_cI (vs := [vR 1, vR (E0 + 2 + 2 * 18)]) (st' := []) (F := (tape_tookWord 18 M)) (Or.inr (Or.inl ⟨rfl, (dg dc29 3 rfl)⟩)) rfl rfl (rk1 (LOC.st (Nat.le_of_ble_eq_true rfl) rfl) rfl) rfl (fun _ r9 => tape_tookWord_ok (Z := Z) (d := e9) (by omega) (by decide)  r9) hf (fun z_3 M_2 he_1 hf => ?_)
  refine ex_if (t := 25) (dg dc29 4 rfl) rfl hf (fun _ hf => ?_) (fun _ hf => ?_)
  · refine ex_pu (ls' := [vR 82, vI v1]) (st' := [vR 82]) (dg dc29 12 rfl) rfl rfl ?_
    refine ex_getF (dg dc29 13 rfl) rfl (LOC.st (Nat.le_of_ble_eq_true rfl) rfl) rfl ?_
    refine ex_ldcT (dg dc29 14 rfl) rfl ?_
    refine ex_cI (vs := [vR 1, vR (E0 + 2 + 2 * 19)]) (st' := []) (F := (tape_tookWord 19 M_2)) (Or.inr (Or.inl ⟨rfl, (dg dc29 15 rfl)⟩)) rfl rfl (rk1 (LOC.st (Nat.le_of_ble_eq_true rfl) rfl) rfl) rfl (fun _ r9 => tape_tookWord_ok (Z := Z) (d := e9) (by omega) (by decide)  r9) hf (fun z_6 M_5 he_4 hf => ?_)
    refine ex_if (t := 59) (dg dc29 16 rfl) rfl hf (fun _ hf => ?_) (fun _ hf => ?_)
    · refine ex_pu (ls' := [vR 82, vI v1]) (st' := [vR 82]) (dg dc29 28 rfl) rfl rfl ?_
      refine ex_getF (dg dc29 29 rfl) rfl (LOC.st (Nat.le_of_ble_eq_true rfl) rfl) rfl ?_
      refine ex_cV (vs := [vR 1]) (st' := []) (F := (tape_fail  M_5)) (Or.inr (Or.inl ⟨rfl, (dg dc29 30 rfl)⟩)) rfl rfl (rk1 (LOC.st (Nat.le_of_ble_eq_true rfl) rfl) rfl) rfl (fun _ r9 => tape_fail_ok (Z := Z) (d := e9) (by omega)  r9) hf (fun M_8 he_7 hf => ?_)
      exact lawr_readLine_J66_ok hd   v1 M_8 hf
    · refine ex_pu (ls' := [vR 82, vI v1]) (st' := [vR 82]) (dg dc29 17 rfl) rfl rfl ?_
      refine ex_getF (dg dc29 18 rfl) rfl (LOC.st (Nat.le_of_ble_eq_true rfl) rfl) rfl ?_
      refine ex_getO (dg dc29 19 rfl) rfl (LOC.st (Nat.le_of_ble_eq_true rfl) rfl) rfl ?_
      show EX Z _ 29 _ [vR 82, vI v1] [vR 44] _ _
      refine ex_pu (ls' := [vR 82, vI v1]) (st' := [vI v1, vR 44]) (dg dc29 20 rfl) rfl rfl ?_
      refine ex_pu (ls' := [vR 82, vI v1]) (st' := [vR 82, vI v1, vR 44]) (dg dc29 21 rfl) rfl rfl ?_
      refine ex_getF (dg dc29 22 rfl) rfl (LOC.st (Nat.le_of_ble_eq_true rfl) rfl) rfl ?_
      refine ex_pu (ls' := [vR 82, vI v1]) (st' := [vI 0, vR 1, vI v1, vR 44]) (dg dc29 23 rfl) rfl rfl ?_
      refine ex_pu (ls' := [vR 82, vI v1]) (st' := [vI 9, vI 0, vR 1, vI v1, vR 44]) (dg dc29 24 rfl) rfl rfl ?_
      refine ex_cI (vs := [vR 1, vI 0, vI 9]) (st' := [vI v1, vR 44]) (F := (tape_needNumber 0 9 M_5)) (Or.inr (Or.inl ⟨rfl, (dg dc29 25 rfl)⟩)) rfl rfl (rk1 (LOC.st (Nat.le_of_ble_eq_true rfl) rfl) rfl) rfl (fun _ r9 => tape_needNumber_ok (Z := Z) (d := e9) (by omega)  r9) hf (fun z_26 M_25 he_24 hf => ?_)
      refine ex_iast (dg dc29 26 rfl) (LOC.st (Nat.le_of_ble_eq_true rfl) rfl) rfl rfl hf (fun _ hf => ?_)
      refine ex_gen hf (fun M_27 hM_28 hf => ?_)
      refine ex_goto (t := 66) (dg dc29 27 rfl) rfl rfl ?_
      exact lawr_readLine_J66_ok hd   v1 M_27 hf
  · refine ex_pu (ls' := [vR 82, vI v1]) (st' := [vR 82]) (dg dc29 5 rfl) rfl rfl ?_
    refine ex_getF (dg dc29 6 rfl) rfl (LOC.st (Nat.le_of_ble_eq_true rfl) rfl) rfl ?_
    refine ex_getO (dg dc29 7 rfl) rfl (LOC.st (Nat.le_of_ble_eq_true rfl) rfl) rfl ?_
    show EX Z _ 29 _ [vR 82, vI v1] [vR 44] _ _
    refine ex_pu (ls' := [vR 82, vI v1]) (st' := [vI v1, vR 44]) (dg dc29 8 rfl) rfl rfl ?_
    refine ex_pu (ls' := [vR 82, vI v1]) (st' := [vI (-1), vI v1, vR 44]) (dg dc29 9 rfl) rfl rfl ?_
    refine ex_iast (dg dc29 10 rfl) (LOC.st (Nat.le_of_ble_eq_true rfl) rfl) rfl rfl hf (fun _ hf => ?_)
    refine ex_gen hf (fun M_29 hM_30 hf => ?_)
    refine ex_goto (t := 66) (dg dc29 11 rfl) rfl rfl ?_
    exact lawr_readLine_J66_ok hd   v1 M_29 hf
