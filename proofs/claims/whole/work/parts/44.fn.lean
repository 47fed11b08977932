/-! ===== METHODS 4 ===== -/
-- GlassHillModel.shirts
def il290 : List (Nat × Instr × Nat) := [(0, .aload_n 0, 1), (1, .iconst 0, 1), (2, .putfield 3, 3), (5, .aload_n 0, 1), (6, .iload_n 1, 1), (7, .iconst 1, 1), (8, .bipush 64, 2), (10, .invokestatic 80, 3), (13, .ifCond .eq 13, 3), (16, .iload_n 2, 1), (17, .iconst 1, 1), (18, .bipush 9, 2), (20, .invokestatic 80, 3), (23, .ifCond .ne 7, 3), (26, .iconst 1, 1), (27, .goto 4, 3), (30, .iconst 0, 1), (31, .iconst 1, 1), (32, .invokevirtual 274, 3), (35, .ifCond .eq 5, 3), (38, .iconst 0, 1), (39, .ireturn, 1), (40, .iload_n 1, 1), (41, .iload_n 2, 1), (42, .lload_n 3, 1), (43, .iconst (-1), 1), (44, .invokestatic 493, 3), (47, .istore 6, 2), (49, .iconst 0, 1), (50, .istore 7, 2), (52, .iload 7, 2), (54, .iload_n 1, 1), (55, .if_icmp .ge 29, 3), (58, .iload 5, 2), (60, .ifCond .eq 24, 3), (63, .iload 6, 2), (65, .iload_n 1, 1), (66, .iload_n 2, 1), (67, .lload_n 3, 1), (68, .iload 7, 2), (70, .invokestatic 493, 3), (73, .invokestatic 469, 3), (76, .istore 6, 2), (78, .iinc 7 1, 3), (81, .goto (-29), 3), (84, .iload 6, 2), (86, .ireturn, 1)]
theorem dc290 : dcs (mC 290) il290 := dc_of (by decide +kernel)
def mo_shirts_L52  (v1 v2 v3 v5 : Int) (K1 : Int → MM → OR) : Nat → Int → Int → MM → OR
  | 0, _, _, _ => none
  | n + 1, v6, v7, M => (bif cmpB .ge v7 v1 then (K1 v6 M) else (bif cmpB .eq v5 0 then (K1 v6 M) else (bI (mo_sews v1 v2 v3 v7 M) fun z_14 M_13 => (mo_shirts_L52 v1 v2 v3 v5 K1 n (imax v6 z_14) (v7 + 1) M_13))))
set_option maxRecDepth 4000 in
theorem mo_shirts_L52_ok {Z : Nat × (Nat → Int)} {d : Nat} (hd : 1 ≤ d)  {v1 v2 v3 v5 : Int} {K1 : Int → MM → OR} {res : AR × MM} (k1 : ∀ (x6 : Int) (M : MM) (j0 j1 j2 j3 j4 j5 j7 : AV), K1 x6 M = some res → EX Z d 290 84 [j0, j1, j2, j3, j4, j5, vI x6, j7] [] M res) : ∀ (n : Nat) (v6 v7 : Int) (M : MM) (j0 : AV), mo_shirts_L52 v1 v2 v3 v5 K1 n v6 v7 M = some res → EX Z d 290 52 [j0, vI v1, vI v2, vJ v3, vU, vI v5, vI v6, vI v7] [] M res := by
  obtain ⟨e9, rfl⟩ : ∃ e9, d = e9 + 1 := ⟨d - 1, by omega⟩
  intro n
  induction n with
  | zero =>
    intro v6 v7 M j0 hf
    unfold mo_shirts_L52 at hf
    cases hf
  | succ n ih =>
    intro v6 v7 M j0 hf
    unfold mo_shirts_L52 at hf
    refine ex_pu (ls' := [j0, vI v1, vI v2, vJ v3, vU, vI v5, vI v6, vI v7]) (st' := [vI v7]) (dg dc290 30 rfl) rfl rfl ?_
    refine ex_pu (ls' := [j0, vI v1, vI v2, vJ v3, vU, vI v5, vI v6, vI v7]) (st' := [vI v1, vI v7]) (dg dc290 31 rfl) rfl rfl ?_
    refine ex_icmp (t := 84) (dg dc290 32 rfl) rfl hf (fun _ hf => ?_) (fun _ hf => ?_)
    · exact k1 v6 M _ _ _ _ _ _ _ hf
    · refine ex_pu (ls' := [j0, vI v1, vI v2, vJ v3, vU, vI v5, vI v6, vI v7]) (st' := [vI v5]) (dg dc290 33 rfl) rfl rfl ?_
      refine ex_if (t := 84) (dg dc290 34 rfl) rfl hf (fun _ hf => ?_) (fun _ hf => ?_)
      · exact k1 v6 M _ _ _ _ _ _ _ hf
      · refine ex_pu (ls' := [j0, vI v1, vI v2, vJ v3, vU, vI v5, vI v6, vI v7]) (st' := [vI v6]) (dg dc290 35 rfl) rfl rfl ?_
        refine ex_pu (ls' := [j0, vI v1, vI v2, vJ v3, vU, vI v5, vI v6, vI v7]) (st' := [vI v1, vI v6]) (dg dc290 36 rfl) rfl rfl ?_
        refine ex_pu (ls' := [j0, vI v1, vI v2, vJ v3, vU, vI v5, vI v6, vI v7]) (st' := [vI v2, vI v1, vI v6]) (dg dc290 37 rfl) rfl rfl ?_
        refine ex_pu (ls' := [j0, vI v1, vI v2, vJ v3, vU, vI v5, vI v6, vI v7]) (st' := [vJ v3, vI v2, vI v1, vI v6]) (dg dc290 38 rfl) rfl rfl ?_
        refine ex_pu (ls' := [j0, vI v1, vI v2, vJ v3, vU, vI v5, vI v6, vI v7]) (st' := [vI v7, vJ v3, vI v2, vI v1, vI v6]) (dg dc290 39 rfl) rfl rfl ?_
        refine ex_cI (vs := [vI v1, vI v2, vJ v3, vI v7]) (st' := [vI v6]) (F := (mo_sews v1 v2 v3 v7 M)) (Or.inl ⟨rfl, (dg dc290 40 rfl)⟩) rfl rfl (Or.inl rfl) rfl (fun _ r9 => mo_sews_ok (Z := Z) (d := e9) (by omega)  r9) hf (fun z_14 M_13 he_12 hf => ?_)
        refine ex_max (dg dc290 41 rfl) rfl rfl ?_
        refine ex_pu (ls' := [j0, vI v1, vI v2, vJ v3, vU, vI v5, vI (imax v6 z_14), vI v7]) (st' := []) (dg dc290 42 rfl) rfl rfl ?_
        refine ex_pu (ls' := [j0, vI v1, vI v2, vJ v3, vU, vI v5, vI (imax v6 z_14), vI (v7 + 1)]) (st' := []) (dg dc290 43 rfl) rfl rfl ?_
        refine ex_goto (t := 52) (dg dc290 44 rfl) rfl rfl ?_
        exact ih (imax v6 z_14) (v7 + 1) M_13 _ hf
def mo_shirts_J31   (v1 v2 v3 v5 s0 : Int) (M : MM) : OR :=
  (bI (mo_throwsIf s0 1 M) fun z_8 M_7 => (bif cmpB .eq z_8 0 then (bI (mo_sews v1 v2 v3 (-1) M_7) fun z_11 M_10 => (mo_shirts_L52 v1 v2 v3 v5 (fun v6_15 M_16 => some (rI v6_15, M_16)) FU z_11 0 M_10)) else some (rI 0, M_7)))
set_option maxRecDepth 4000 in
theorem mo_shirts_J31_ok {Z : Nat × (Nat → Int)} {d : Nat} (hd : 1 ≤ d)   {res : AR × MM}  : ∀ (v1 v2 v3 v5 s0 : Int) (M : MM) (j0 j6 j7 : AV), mo_shirts_J31   v1 v2 v3 v5 s0 M = some res → EX Z d 290 31 [j0, vI v1, vI v2, vJ v3, vU, vI v5, j6, j7] [vI s0, vR 165] M res := by
  obtain ⟨e9, rfl⟩ : ∃ e9, d = e9 + 1 := ⟨d - 1, by omega⟩
  intro v1 v2 v3 v5 s0 M j0 j6 j7 hf
  unfold mo_shirts_J31 at hf
  refine ex_pu (ls' := [j0, vI v1, vI v2, vJ v3, vU, vI v5, j6, j7]) (st' := [vI 1, vI s0, vR 165]) (dg dc290 17 rfl) rfl rfl ?_
  refine ex_cI (vs := [vR 165, vI s0, vI 1]) (st' := []) (F := (mo_throwsIf s0 1 M)) (Or.inr (Or.inl ⟨rfl, (dg dc290 18 rfl)⟩)) rfl rfl (rk1 (LOC.st (Nat.le_of_ble_eq_true rfl) rfl) rfl) rfl (fun _ r9 => mo_throwsIf_ok (Z := Z) (d := e9) (by omega)  r9) hf (fun z_8 M_7 he_6 hf => ?_)
  refine ex_if (t := 40) (dg dc290 19 rfl) rfl hf (fun _ hf => ?_) (fun _ hf => ?_)
  · refine ex_pu (ls' := [j0, vI v1, vI v2, vJ v3, vU, vI v5, j6, j7]) (st' := [vI v1]) (dg dc290 22 rfl) rfl rfl ?_
    refine ex_pu (ls' := [j0, vI v1, vI v2, vJ v3, vU, vI v5, j6, j7]) (st' := [vI v2, vI v1]) (dg dc290 23 rfl) rfl rfl ?_
    refine ex_pu (ls' := [j0, vI v1, vI v2, vJ v3, vU, vI v5, j6, j7]) (st' := [vJ v3, vI v2, vI v1]) (dg dc290 24 rfl) rfl rfl ?_
    refine ex_pu (ls' := [j0, vI v1, vI v2, vJ v3, vU, vI v5, j6, j7]) (st' := [vI (-1), vJ v3, vI v2, vI v1]) (dg dc290 25 rfl) rfl rfl ?_
    refine ex_cI (vs := [vI v1, vI v2, vJ v3, vI (-1)]) (st' := []) (F := (mo_sews v1 v2 v3 (-1) M_7)) (Or.inl ⟨rfl, (dg dc290 26 rfl)⟩) rfl rfl (Or.inl rfl) rfl (fun _ r9 => mo_sews_ok (Z := Z) (d := e9) (by omega)  r9) hf (fun z_11 M_10 he_9 hf => ?_)
    refine ex_pu (ls' := [j0, vI v1, vI v2, vJ v3, vU, vI v5, vI z_11, j7]) (st' := []) (dg dc290 27 rfl) rfl rfl ?_
    refine ex_pu (ls' := [j0, vI v1, vI v2, vJ v3, vU, vI v5, vI z_11, j7]) (st' := [vI 0]) (dg dc290 28 rfl) rfl rfl ?_
    refine ex_pu (ls' := [j0, vI v1, vI v2, vJ v3, vU, vI v5, vI z_11, vI 0]) (st' := []) (dg dc290 29 rfl) rfl rfl ?_
    refine mo_shirts_L52_ok hd  ?_ FU z_11 0 M_10 _ hf
    · intro v6_15 M_16 j0_17 j1_18 j2_19 j3_20 j4_21 j5_22 j7_23 hf
      refine ex_pu (ls' := [j0_17, j1_18, j2_19, j3_20, j4_21, j5_22, vI v6_15, j7_23]) (st' := [vI v6_15]) (dg dc290 45 rfl) rfl rfl ?_
      exact ex_ire (dg dc290 46 rfl) rfl hf
  · refine ex_pu (ls' := [j0, vI v1, vI v2, vJ v3, vU, vI v5, j6, j7]) (st' := [vI 0]) (dg dc290 20 rfl) rfl rfl ?_
    exact ex_ire (dg dc290 21 rfl) rfl hf
def mo_shirts_J26   (v1 v2 v3 v5 : Int) (M : MM) : OR :=
  (mo_shirts_J31   v1 v2 v3 v5 1 M)
set_option maxRecDepth 4000 in
theorem mo_shirts_J26_ok {Z : Nat × (Nat → Int)} {d : Nat} (hd : 1 ≤ d)   {res : AR × MM}  : ∀ (v1 v2 v3 v5 : Int) (M : MM) (j0 j6 j7 : AV), mo_shirts_J26   v1 v2 v3 v5 M = some res → EX Z d 290 26 [j0, vI v1, vI v2, vJ v3, vU, vI v5, j6, j7] [vR 165] M res := by
  obtain ⟨e9, rfl⟩ : ∃ e9, d = e9 + 1 := ⟨d - 1, by omega⟩
  intro v1 v2 v3 v5 M j0 j6 j7 hf
  unfold mo_shirts_J26 at hf
  refine ex_pu (ls' := [j0, vI v1, vI v2, vJ v3, vU, vI v5, j6, j7]) (st' := [vI 1, vR 165]) (dg dc290 14 rfl) rfl rfl ?_
  refine ex_goto (t := 31) (dg dc290 15 rfl) rfl rfl ?_
  exact mo_shirts_J31_ok hd   v1 v2 v3 v5 1 M _ _ _ hf
def mo_shirts (v1 : Int) (v2 : Int) (v3 : Int) (v5 : Int) (M : MM) : OR :=
  (sM (mU M 165 0 0) fun M_1 => (bI (mo_in v1 1 64 M_1) fun z_5 M_4 => (bif cmpB .eq z_5 0 then (mo_shirts_J26   v1 v2 v3 v5 M_4) else (bI (mo_in v2 1 9 M_4) fun z_26 M_25 => (bif cmpB .ne z_26 0 then (mo_shirts_J31   v1 v2 v3 v5 0 M_25) else (mo_shirts_J26   v1 v2 v3 v5 M_25))))))
set_option maxRecDepth 4000 in
theorem mo_shirts_ok {Z : Nat × (Nat → Int)} {d : Nat} (hd : 1 ≤ d) {M : MM}  {v1 v2 v3 v5 : Int} {res : AR × MM} (hf : mo_shirts v1 v2 v3 v5 M = some res) : EX Z d 290 0 (ent 290 [vR 165, vI v1, vI v2, vJ v3, vI v5]) [] M res := by
  obtain ⟨e9, rfl⟩ : ∃ e9, d = e9 + 1 := ⟨d - 1, by omega⟩
  unfold mo_shirts at hf
  show EX Z _ 290 0 [vR 165, vI v1, vI v2, vJ v3, vU, vI v5, vU, vU] [] M res
  refine ex_pu (ls' := [vR 165, vI v1, vI v2, vJ v3, vU, vI v5, vU, vU]) (st' := [vR 165]) (dg dc290 0 rfl) rfl rfl ?_
  refine ex_pu (ls' := [vR 165, vI v1, vI v2, vJ v3, vU, vI v5, vU, vU]) (st' := [vI 0, vR 165]) (dg dc290 1 rfl) rfl rfl ?_
  refine ex_putI (dg dc290 2 rfl) rfl (LOC.st (Nat.le_of_ble_eq_true rfl) rfl) rfl rfl rfl ?_
  refine ex_gen hf (fun M_1 hM_2 hf => ?_)
  refine ex_pu (ls' := [vR 165, vI v1, vI v2, vJ v3, vU, vI v5, vU, vU]) (st' := [vR 165]) (dg dc290 3 rfl) rfl rfl ?_
  refine ex_pu (ls' := [vR 165, vI v1, vI v2, vJ v3, vU, vI v5, vU, vU]) (st' := [vI v1, vR 165]) (dg dc290 4 rfl) rfl rfl ?_
  refine ex_pu (ls' := [vR 165, vI v1, vI v2, vJ v3, vU, vI v5, vU, vU]) (st' := [vI 1, vI v1, vR 165]) (dg dc290 5 rfl) rfl rfl ?_
  refine ex_pu (ls' := [vR 165, vI v1, vI v2, vJ v3, vU, vI v5, vU, vU]) (st' := [vI 64, vI 1, vI v1, vR 165]) (dg dc290 6 rfl) rfl rfl ?_
  refine ex_cI (vs := [vI v1, vI 1, vI 64]) (st' := [vR 165]) (F := (mo_in v1 1 64 M_1)) (Or.inl ⟨rfl, (dg dc290 7 rfl)⟩) rfl rfl (Or.inl rfl) rfl (fun _ r9 => mo_in_ok (Z := Z) (d := e9) (by omega)  r9) hf (fun z_5 M_4 he_3 hf => ?_)
  refine ex_if (t := 26) (dg dc290 8 rfl) rfl hf (fun _ hf => ?_) (fun _ hf => ?_)
  · exact mo_shirts_J26_ok hd   v1 v2 v3 v5 M_4 _ _ _ hf
  · refine ex_pu (ls' := [vR 165, vI v1, vI v2, vJ v3, vU, vI v5, vU, vU]) (st' := [vI v2, vR 165]) (dg dc290 9 rfl) rfl rfl ?_
    refine ex_pu (ls' := [vR 165, vI v1, vI v2, vJ v3, vU, vI v5, vU, vU]) (st' := [vI 1, vI v2, vR 165]) (dg dc290 10 rfl) rfl rfl ?_
    refine ex_pu (ls' := [vR 165, vI v1, vI v2, vJ v3, vU, vI v5, vU, vU]) (st' := [vI 9, vI 1, vI v2, vR 165]) (dg dc290 11 rfl) rfl rfl ?_
    refine ex_cI (vs := [vI v2, vI 1, vI 9]) (st' := [vR 165]) (F := (mo_in v2 1 9 M_4)) (Or.inl ⟨rfl, (dg dc290 12 rfl)⟩) rfl rfl (Or.inl rfl) rfl (fun _ r9 => mo_in_ok (Z := Z) (d := e9) (by omega)  r9) hf (fun z_26 M_25 he_24 hf => ?_)
    refine ex_if (t := 30) (dg dc290 13 rfl) rfl hf (fun _ hf => ?_) (fun _ hf => ?_)
    · refine ex_pu (ls' := [vR 165, vI v1, vI v2, vJ v3, vU, vI v5, vU, vU]) (st' := [vI 0, vR 165]) (dg dc290 16 rfl) rfl rfl ?_
      exact mo_shirts_J31_ok hd   v1 v2 v3 v5 0 M_25 _ _ _ hf
    · exact mo_shirts_J26_ok hd   v1 v2 v3 v5 M_25 _ _ _ hf
-- GlassHillModel.log
def il291 : List (Nat × Instr × Nat) := [(0, .aload_n 0, 1), (1, .iconst 0, 1), (2, .putfield 3, 3), (5, .aload_n 0, 1), (6, .iload_n 2, 1), (7, .iconst 0, 1), (8, .iconst 2, 1), (9, .invokestatic 80, 3), (12, .ifCond .ne 7, 3), (15, .iconst 1, 1), (16, .goto 4, 3), (19, .iconst 0, 1), (20, .iconst 1, 1), (21, .invokevirtual 274, 3), (24, .ifCond .eq 5, 3), (27, .iconst 0, 1), (28, .ireturn, 1), (29, .iload_n 1, 1), (30, .iconst 0, 1), (31, .aload_n 0, 1), (32, .getfield 13, 3), (35, .bipush 9, 2), (37, .iaload, 1), (38, .iconst 1, 1), (39, .isub, 1), (40, .invokestatic 80, 3), (43, .ifCond .eq 20, 3), (46, .aload_n 0, 1), (47, .getfield 13, 3), (50, .sipush 236, 3), (53, .iconst 3, 1), (54, .iload_n 1, 1), (55, .imul, 1), (56, .iadd, 1), (57, .iload_n 2, 1), (58, .iadd, 1), (59, .iaload, 1), (60, .goto 4, 3), (63, .iconst (-1), 1), (64, .ireturn, 1)]
theorem dc291 : dcs (mC 291) il291 := dc_of (by decide +kernel)
def mo_log_J20   (v1 v2 s0 : Int) (M : MM) : OR :=
  (bI (mo_throwsIf s0 1 M) fun z_8 M_7 => (bif cmpB .eq z_8 0 then (bif inB 9 1964 then (bI (mo_in v1 0 ((M_7 166 9) - 1) M_7) fun z_11 M_10 => (bif cmpB .eq z_11 0 then some (rI (-1), M_10) else (bif inB ((236 + (3 * v1)) + v2) 1964 then some (rI (M_10 166 (((236 + (3 * v1)) + v2)).toNat), M_10) else none))) else none) else some (rI 0, M_7)))
set_option maxRecDepth 4000 in
theorem mo_log_J20_ok {Z : Nat × (Nat → Int)} {d : Nat} (hd : 1 ≤ d)   {res : AR × MM}  : ∀ (v1 v2 s0 : Int) (M : MM), mo_log_J20   v1 v2 s0 M = some res → EX Z d 291 20 [vR 165, vI v1, vI v2] [vI s0, vR 165] M res := by
  obtain ⟨e9, rfl⟩ : ∃ e9, d = e9 + 1 := ⟨d - 1, by omega⟩
  intro v1 v2 s0 M hf
  unfold mo_log_J20 at hf
  refine ex_pu (ls' := [vR 165, vI v1, vI v2]) (st' := [vI 1, vI s0, vR 165]) (dg dc291 12 rfl) rfl rfl ?_
  refine ex_cI (vs := [vR 165, vI s0, vI 1]) (st' := []) (F := (mo_throwsIf s0 1 M)) (Or.inr (Or.inl ⟨rfl, (dg dc291 13 rfl)⟩)) rfl rfl (rk1 (LOC.st (Nat.le_of_ble_eq_true rfl) rfl) rfl) rfl (fun _ r9 => mo_throwsIf_ok (Z := Z) (d := e9) (by omega)  r9) hf (fun z_8 M_7 he_6 hf => ?_)
  refine ex_if (t := 29) (dg dc291 14 rfl) rfl hf (fun _ hf => ?_) (fun _ hf => ?_)
  · refine ex_pu (ls' := [vR 165, vI v1, vI v2]) (st' := [vI v1]) (dg dc291 17 rfl) rfl rfl ?_
    refine ex_pu (ls' := [vR 165, vI v1, vI v2]) (st' := [vI 0, vI v1]) (dg dc291 18 rfl) rfl rfl ?_
    refine ex_pu (ls' := [vR 165, vI v1, vI v2]) (st' := [vR 165, vI 0, vI v1]) (dg dc291 19 rfl) rfl rfl ?_
    refine ex_getO (dg dc291 20 rfl) rfl (LOC.st (Nat.le_of_ble_eq_true rfl) rfl) rfl ?_
    show EX Z _ 291 _ [vR 165, vI v1, vI v2] [vR 166, vI 0, vI v1] _ _
    refine ex_pu (ls' := [vR 165, vI v1, vI v2]) (st' := [vI 9, vR 166, vI 0, vI v1]) (dg dc291 21 rfl) rfl rfl ?_
    refine ex_iald (dg dc291 22 rfl) (LOC.st (Nat.le_of_ble_eq_true rfl) rfl) rfl hf (fun _ hf => ?_)
    refine ex_pu (ls' := [vR 165, vI v1, vI v2]) (st' := [vI 1, vI (M_7 166 9), vI 0, vI v1]) (dg dc291 23 rfl) rfl rfl ?_
    refine ex_pu (ls' := [vR 165, vI v1, vI v2]) (st' := [vI ((M_7 166 9) - 1), vI 0, vI v1]) (dg dc291 24 rfl) rfl rfl ?_
    refine ex_cI (vs := [vI v1, vI 0, vI ((M_7 166 9) - 1)]) (st' := []) (F := (mo_in v1 0 ((M_7 166 9) - 1) M_7)) (Or.inl ⟨rfl, (dg dc291 25 rfl)⟩) rfl rfl (Or.inl rfl) rfl (fun _ r9 => mo_in_ok (Z := Z) (d := e9) (by omega)  r9) hf (fun z_11 M_10 he_9 hf => ?_)
    refine ex_if (t := 63) (dg dc291 26 rfl) rfl hf (fun _ hf => ?_) (fun _ hf => ?_)
    · refine ex_pu (ls' := [vR 165, vI v1, vI v2]) (st' := [vI (-1)]) (dg dc291 38 rfl) rfl rfl ?_
      exact ex_ire (dg dc291 39 rfl) rfl hf
    · refine ex_pu (ls' := [vR 165, vI v1, vI v2]) (st' := [vR 165]) (dg dc291 27 rfl) rfl rfl ?_
      refine ex_getO (dg dc291 28 rfl) rfl (LOC.st (Nat.le_of_ble_eq_true rfl) rfl) rfl ?_
      show EX Z _ 291 _ [vR 165, vI v1, vI v2] [vR 166] _ _
      refine ex_pu (ls' := [vR 165, vI v1, vI v2]) (st' := [vI 236, vR 166]) (dg dc291 29 rfl) rfl rfl ?_
      refine ex_pu (ls' := [vR 165, vI v1, vI v2]) (st' := [vI 3, vI 236, vR 166]) (dg dc291 30 rfl) rfl rfl ?_
      refine ex_pu (ls' := [vR 165, vI v1, vI v2]) (st' := [vI v1, vI 3, vI 236, vR 166]) (dg dc291 31 rfl) rfl rfl ?_
      refine ex_pu (ls' := [vR 165, vI v1, vI v2]) (st' := [vI (3 * v1), vI 236, vR 166]) (dg dc291 32 rfl) rfl rfl ?_
      refine ex_pu (ls' := [vR 165, vI v1, vI v2]) (st' := [vI (236 + (3 * v1)), vR 166]) (dg dc291 33 rfl) rfl rfl ?_
      refine ex_pu (ls' := [vR 165, vI v1, vI v2]) (st' := [vI v2, vI (236 + (3 * v1)), vR 166]) (dg dc291 34 rfl) rfl rfl ?_
      refine ex_pu (ls' := [vR 165, vI v1, vI v2]) (st' := [vI ((236 + (3 * v1)) + v2), vR 166]) (dg dc291 35 rfl) rfl rfl ?_
      refine ex_iald (dg dc291 36 rfl) (LOC.st (Nat.le_of_ble_eq_true rfl) rfl) rfl hf (fun _ hf => ?_)
      refine ex_goto (t := 64) (dg dc291 37 rfl) rfl rfl ?_
      exact ex_ire (dg dc291 39 rfl) rfl hf
  · refine ex_pu (ls' := [vR 165, vI v1, vI v2]) (st' := [vI 0]) (dg dc291 15 rfl) rfl rfl ?_
    exact ex_ire (dg dc291 16 rfl) rfl hf
def mo_log (v1 : Int) (v2 : Int) (M : MM) : OR :=
  (sM (mU M 165 0 0) fun M_1 => (bI (mo_in v2 0 2 M_1) fun z_5 M_4 => (bif cmpB .ne z_5 0 then (mo_log_J20   v1 v2 0 M_4) else (mo_log_J20   v1 v2 1 M_4))))
set_option maxRecDepth 4000 in
theorem mo_log_ok {Z : Nat × (Nat → Int)} {d : Nat} (hd : 1 ≤ d) {M : MM}  {v1 v2 : Int} {res : AR × MM} (hf : mo_log v1 v2 M = some res) : EX Z d 291 0 (ent 291 [vR 165, vI v1, vI v2]) [] M res := by
  obtain ⟨e9, rfl⟩ : ∃ e9, d = e9 + 1 := ⟨d - 1, by omega⟩
  unfold mo_log at hf
  show EX Z _ 291 0 [vR 165, vI v1, vI v2] [] M res
  refine ex_pu (ls' := [vR 165, vI v1, vI v2]) (st' := [vR 165]) (dg dc291 0 rfl) rfl rfl ?_
  refine ex_pu (ls' := [vR 165, vI v1, vI v2]) (st' := [vI 0, vR 165]) (dg dc291 1 rfl) rfl rfl ?_
  refine ex_putI (dg dc291 2 rfl) rfl (LOC.st (Nat.le_of_ble_eq_true rfl) rfl) rfl rfl rfl ?_
  refine ex_gen hf (fun M_1 hM_2 hf => ?_)
  refine ex_pu (ls' := [vR 165, vI v1, vI v2]) (st' := [vR 165]) (dg dc291 3 rfl) rfl rfl ?_
  refine ex_pu (ls' := [vR 165, vI v1, vI v2]) (st' := [vI v2, vR 165]) (dg dc291 4 rfl) rfl rfl ?_
  refine ex_pu (ls' := [vR 165, vI v1, vI v2]) (st' := [vI 0, vI v2, vR 165]) (dg dc291 5 rfl) rfl rfl ?_
  refine ex_pu (ls' := [vR 165, vI v1, vI v2]) (st' := [vI 2, vI 0, vI v2, vR 165]) (dg dc291 6 rfl) rfl rfl ?_
  refine ex_cI (vs := [vI v2, vI 0, vI 2]) (st' := [vR 165]) (F := (mo_in v2 0 2 M_1)) (Or.inl ⟨rfl, (dg dc291 7 rfl)⟩) rfl rfl (Or.inl rfl) rfl (fun _ r9 => mo_in_ok (Z := Z) (d := e9) (by omega)  r9) hf (fun z_5 M_4 he_3 hf => ?_)
  refine ex_if (t := 19) (dg dc291 8 rfl) rfl hf (fun _ hf => ?_) (fun _ hf => ?_)
  · refine ex_pu (ls' := [vR 165, vI v1, vI v2]) (st' := [vI 0, vR 165]) (dg dc291 11 rfl) rfl rfl ?_
    exact mo_log_J20_ok hd   v1 v2 0 M_4 hf
  · refine ex_pu (ls' := [vR 165, vI v1, vI v2]) (st' := [vI 1, vR 165]) (dg dc291 9 rfl) rfl rfl ?_
    refine ex_goto (t := 20) (dg dc291 10 rfl) rfl rfl ?_
    exact mo_log_J20_ok hd   v1 v2 1 M_4 hf
-- GlassHillModel.keepers
def il292 : List (Nat × Instr × Nat) := [(0, .iconst 0, 1), (1, .istore_n 1, 1), (2, .iconst 0, 1), (3, .istore_n 2, 1), (4, .iload_n 2, 1), (5, .aload_n 0, 1), (6, .invokevirtual 76, 3), (9, .if_icmp .ge 25, 3), (12, .iload_n 1, 1), (13, .aload_n 0, 1), (14, .iload_n 2, 1), (15, .invokevirtual 159, 3), (18, .ifCond .eq 7, 3), (21, .iconst 1, 1), (22, .goto 4, 3), (25, .iconst 0, 1), (26, .iadd, 1), (27, .istore_n 1, 1), (28, .iinc 2 1, 3), (31, .goto (-27), 3), (34, .iload_n 1, 1), (35, .ireturn, 1)]
theorem dc292 : dcs (mC 292) il292 := dc_of (by decide +kernel)
def mo_keepers_L4  (K1 : Int → MM → OR) : Nat → Int → Int → MM → OR
  | 0, _, _, _ => none
  | n + 1, v1, v2, M => (bI (mo_places  M) fun z_3 M_2 => (bif cmpB .ge v2 z_3 then (K1 v1 M_2) else (bI (mo_isKeeper v2 M_2) fun z_6 M_5 => (bif cmpB .eq z_6 0 then (mo_keepers_L4  K1 n (v1 + 0) (v2 + 1) M_5) else (mo_keepers_L4  K1 n (v1 + 1) (v2 + 1) M_5)))))
set_option maxRecDepth 4000 in
theorem mo_keepers_L4_ok {Z : Nat × (Nat → Int)} {d : Nat} (hd : 2 ≤ d)  {K1 : Int → MM → OR} {res : AR × MM} (k1 : ∀ (x1 : Int) (M : MM) (j0 j2 : AV), K1 x1 M = some res → EX Z d 292 34 [j0, vI x1, j2] [] M res) : ∀ (n : Nat) (v1 v2 : Int) (M : MM), mo_keepers_L4  K1 n v1 v2 M = some res → EX Z d 292 4 [vR 165, vI v1, vI v2] [] M res := by
  obtain ⟨e9, rfl⟩ : ∃ e9, d = e9 + 1 := ⟨d - 1, by omega⟩
  intro n
  induction n with
  | zero =>
    intro v1 v2 M hf
    unfold mo_keepers_L4 at hf
    cases hf
  | succ n ih =>
    intro v1 v2 M hf
    unfold mo_keepers_L4 at hf
    refine ex_pu (ls' := [vR 165, vI v1, vI v2]) (st' := [vI v2]) (dg dc292 4 rfl) rfl rfl ?_
    refine ex_pu (ls' := [vR 165, vI v1, vI v2]) (st' := [vR 165, vI v2]) (dg dc292 5 rfl) rfl rfl ?_
    refine ex_cI (vs := [vR 165]) (st' := [vI v2]) (F := (mo_places  M)) (Or.inr (Or.inl ⟨rfl, (dg dc292 6 rfl)⟩)) rfl rfl (rk1 (LOC.st (Nat.le_of_ble_eq_true rfl) rfl) rfl) rfl (fun _ r9 => mo_places_ok (Z := Z) (d := e9) (by omega)  r9) hf (fun z_3 M_2 he_1 hf => ?_)
    refine ex_icmp (t := 34) (dg dc292 7 rfl) rfl hf (fun _ hf => ?_) (fun _ hf => ?_)
    · exact k1 v1 M_2 _ _ hf
    · refine ex_pu (ls' := [vR 165, vI v1, vI v2]) (st' := [vI v1]) (dg dc292 8 rfl) rfl rfl ?_
      refine ex_pu (ls' := [vR 165, vI v1, vI v2]) (st' := [vR 165, vI v1]) (dg dc292 9 rfl) rfl rfl ?_
      refine ex_pu (ls' := [vR 165, vI v1, vI v2]) (st' := [vI v2, vR 165, vI v1]) (dg dc292 10 rfl) rfl rfl ?_
      refine ex_cI (vs := [vR 165, vI v2]) (st' := [vI v1]) (F := (mo_isKeeper v2 M_2)) (Or.inr (Or.inl ⟨rfl, (dg dc292 11 rfl)⟩)) rfl rfl (rk1 (LOC.st (Nat.le_of_ble_eq_true rfl) rfl) rfl) rfl (fun _ r9 => mo_isKeeper_ok (Z := Z) (d := e9) (by omega)  r9) hf (fun z_6 M_5 he_4 hf => ?_)
      refine ex_if (t := 25) (dg dc292 12 rfl) rfl hf (fun _ hf => ?_) (fun _ hf => ?_)
      · refine ex_pu (ls' := [vR 165, vI v1, vI v2]) (st' := [vI 0, vI v1]) (dg dc292 15 rfl) rfl rfl ?_
        refine ex_pu (ls' := [vR 165, vI v1, vI v2]) (st' := [vI (v1 + 0)]) (dg dc292 16 rfl) rfl rfl ?_
        refine ex_pu (ls' := [vR 165, vI (v1 + 0), vI v2]) (st' := []) (dg dc292 17 rfl) rfl rfl ?_
        refine ex_pu (ls' := [vR 165, vI (v1 + 0), vI (v2 + 1)]) (st' := []) (dg dc292 18 rfl) rfl rfl ?_
        refine ex_goto (t := 4) (dg dc292 19 rfl) rfl rfl ?_
        exact ih (v1 + 0) (v2 + 1) M_5 hf
      · refine ex_pu (ls' := [vR 165, vI v1, vI v2]) (st' := [vI 1, vI v1]) (dg dc292 13 rfl) rfl rfl ?_
        refine ex_goto (t := 26) (dg dc292 14 rfl) rfl rfl ?_
        refine ex_pu (ls' := [vR 165, vI v1, vI v2]) (st' := [vI (v1 + 1)]) (dg dc292 16 rfl) rfl rfl ?_
        refine ex_pu (ls' := [vR 165, vI (v1 + 1), vI v2]) (st' := []) (dg dc292 17 rfl) rfl rfl ?_
        refine ex_pu (ls' := [vR 165, vI (v1 + 1), vI (v2 + 1)]) (st' := []) (dg dc292 18 rfl) rfl rfl ?_
        refine ex_goto (t := 4) (dg dc292 19 rfl) rfl rfl ?_
        exact ih (v1 + 1) (v2 + 1) M_5 hf
def mo_keepers  (M : MM) : OR :=
  (mo_keepers_L4  (fun v1_7 M_8 => some (rI v1_7, M_8)) FU 0 0 M)
set_option maxRecDepth 4000 in
theorem mo_keepers_ok {Z : Nat × (Nat → Int)} {d : Nat} (hd : 2 ≤ d) {M : MM}  {res : AR × MM} (hf : mo_keepers  M = some res) : EX Z d 292 0 (ent 292 [vR 165]) [] M res := by
  obtain ⟨e9, rfl⟩ : ∃ e9, d = e9 + 1 := ⟨d - 1, by omega⟩
  unfold mo_keepers at hf
  show EX Z _ 292 0 [vR 165, vU, vU] [] M res
  refine ex_pu (ls' := [vR 165, vU, vU]) (st' := [vI 0]) (dg dc292 0 rfl) rfl rfl ?_
  refine ex_pu (ls' := [vR 165, vI 0, vU]) (st' := []) (dg dc292 1 rfl) rfl rfl ?_
  refine ex_pu (ls' := [vR 165, vI 0, vU]) (st' := [vI 0]) (dg dc292 2 rfl) rfl rfl ?_
  refine ex_pu (ls' := [vR 165, vI 0, vI 0]) (st' := []) (dg dc292 3 rfl) rfl rfl ?_
  refine mo_keepers_L4_ok hd  ?_ FU 0 0 M hf
  · intro v1_7 M_8 j0_9 j2_10 hf
    refine ex_pu (ls' := [j0_9, vI v1_7, j2_10]) (st' := [vI v1_7]) (dg dc292 20 rfl) rfl rfl ?_
    exact ex_ire (dg dc292 21 rfl) rfl hf
-- GlassHillModel.count
def il293 : List (Nat × Instr × Nat) := [(0, .aload_n 0, 1), (1, .iconst 0, 1), (2, .putfield 3, 3), (5, .iload_n 1, 1), (6, .tableswitch 132 4 12 #[50, 55, 62, 85, 93, 98, 103, 113, 127], 50), (56, .aload_n 0, 1), (57, .invokevirtual 497, 3), (60, .ireturn, 1), (61, .aload_n 0, 1), (62, .getfield 13, 3), (65, .iconst 4, 1), (66, .iaload, 1), (67, .ireturn, 1), (68, .aload_n 0, 1), (69, .getfield 13, 3), (72, .iconst 5, 1), (73, .iaload, 1), (74, .iconst 1, 1), (75, .if_icmp .ne 14, 3), (78, .aload_n 0, 1), (79, .getfield 13, 3), (82, .sipush 266, 3), (85, .iaload, 1), (86, .goto 4, 3), (89, .iconst (-1), 1), (90, .ireturn, 1), (91, .aload_n 0, 1), (92, .getfield 13, 3), (95, .bipush 6, 2), (97, .iaload, 1), (98, .ireturn, 1), (99, .aload_n 0, 1), (100, .invokevirtual 297, 3), (103, .ireturn, 1), (104, .aload_n 0, 1), (105, .invokevirtual 300, 3), (108, .ireturn, 1), (109, .aload_n 0, 1), (110, .aload_n 0, 1), (111, .invokevirtual 411, 3), (114, .iconst 3, 1), (115, .invokevirtual 358, 3), (118, .ireturn, 1), (119, .aload_n 0, 1), (120, .aload_n 0, 1), (121, .aload_n 0, 1), (122, .invokevirtual 411, 3), (125, .iconst 3, 1), (126, .invokevirtual 358, 3), (129, .invokevirtual 367, 3), (132, .ireturn, 1), (133, .aload_n 0, 1), (134, .getfield 69, 3), (137, .ireturn, 1), (138, .iload_n 1, 1), (139, .iconst 0, 1), (140, .iconst 3, 1), (141, .invokestatic 80, 3), (144, .ifCond .eq 12, 3), (147, .aload_n 0, 1), (148, .getfield 13, 3), (151, .iload_n 1, 1), (152, .iaload, 1), (153, .goto 4, 3), (156, .iconst (-1), 1), (157, .ireturn, 1)]
theorem dc293 : dcs (mC 293) il293 := dc_of (by decide +kernel)
def mo_count (v1 : Int) (M : MM) : OR :=
  (sM (mU M 165 0 0) fun M_1 => (bif cmpB .eq v1 4 then (bI (mo_keepers  M_1) fun z_6 M_5 => some (rI z_6, M_5)) else (bif cmpB .eq v1 5 then (bif inB 4 1964 then some (rI (M_1 166 4), M_1) else none) else (bif cmpB .eq v1 6 then (bif inB 5 1964 then (bif cmpB .ne (M_1 166 5) 1 then some (rI (-1), M_1) else (bif inB 266 1964 then some (rI (M_1 166 266), M_1) else none)) else none) else (bif cmpB .eq v1 7 then (bif inB 6 1964 then some (rI (M_1 166 6), M_1) else none) else (bif cmpB .eq v1 8 then (bI (mo_passedNow  M_1) fun z_13 M_12 => some (rI z_13, M_12)) else (bif cmpB .eq v1 9 then (bI (mo_freedNow  M_1) fun z_17 M_16 => some (rI z_17, M_16)) else (bif cmpB .eq v1 10 then (bJ (mo_now  M_1) fun z_21 M_20 => (bI (mo_thingsIn z_21 3 M_20) fun z_24 M_23 => some (rI z_24, M_23))) else (bif cmpB .eq v1 11 then (bJ (mo_now  M_1) fun z_28 M_27 => (bI (mo_thingsIn z_28 3 M_27) fun z_31 M_30 => (bI (mo_worthOf z_31 M_30) fun z_34 M_33 => some (rI z_34, M_33)))) else (bif cmpB .eq v1 12 then some (rI (M_1 165 6), M_1) else (bI (mo_in v1 0 3 M_1) fun z_38 M_37 => (bif cmpB .eq z_38 0 then some (rI (-1), M_37) else (bif inB v1 1964 then some (rI (M_37 166 (v1).toNat), M_37) else none)))))))))))))
set_option maxRecDepth 4000 in
theorem mo_count_ok {Z : Nat × (Nat → Int)} {d : Nat} (hd : 3 ≤ d) {M : MM}  {v1 : Int} {res : AR × MM} (hf : mo_count v1 M = some res) : EX Z d 293 0 (ent 293 [vR 165, vI v1]) [] M res := by
  obtain ⟨e9, rfl⟩ : ∃ e9, d = e9 + 1 := ⟨d - 1, by omega⟩
  unfold mo_count at hf
  show EX Z _ 293 0 [vR 165, vI v1] [] M res
  refine ex_pu (ls' := [vR 165, vI v1]) (st' := [vR 165]) (dg dc293 0 rfl) rfl rfl ?_
  refine ex_pu (ls' := [vR 165, vI v1]) (st' := [vI 0, vR 165]) (dg dc293 1 rfl) rfl rfl ?_
  refine ex_putI (dg dc293 2 rfl) rfl (LOC.st (Nat.le_of_ble_eq_true rfl) rfl) rfl rfl rfl ?_
  refine ex_gen hf (fun M_1 hM_2 hf => ?_)
  refine ex_pu (ls' := [vR 165, vI v1]) (st' := [vI v1]) (dg dc293 3 rfl) rfl rfl ?_
  refine ex_bif hf (fun hc_3 hf => ?_) (fun hc_3 hf => ?_)
  · refine ex_tsw (t := 56) (dg dc293 4 rfl) hc_3 (by decide +kernel) rfl ⟨by decide, by decide, by decide⟩ rfl ?_
    refine ex_pu (ls' := [vR 165, vI v1]) (st' := [vR 165]) (dg dc293 5 rfl) rfl rfl ?_
    refine ex_cI (vs := [vR 165]) (st' := []) (F := (mo_keepers  M_1)) (Or.inr (Or.inl ⟨rfl, (dg dc293 6 rfl)⟩)) rfl rfl (rk1 (LOC.st (Nat.le_of_ble_eq_true rfl) rfl) rfl) rfl (fun _ r9 => mo_keepers_ok (Z := Z) (d := e9) (by omega)  r9) hf (fun z_6 M_5 he_4 hf => ?_)
    exact ex_ire (dg dc293 7 rfl) rfl hf
  ·
    refine ex_bif hf (fun hc_7 hf => ?_) (fun hc_7 hf => ?_)
    · refine ex_tsw (t := 61) (dg dc293 4 rfl) hc_7 (by decide +kernel) rfl ⟨by decide, by decide, by decide⟩ rfl ?_
      refine ex_pu (ls' := [vR 165, vI v1]) (st' := [vR 165]) (dg dc293 8 rfl) rfl rfl ?_
      refine ex_getO (dg dc293 9 rfl) rfl (LOC.st (Nat.le_of_ble_eq_true rfl) rfl) rfl ?_
      show EX Z _ 293 _ [vR 165, vI v1] [vR 166] _ _
      refine ex_pu (ls' := [vR 165, vI v1]) (st' := [vI 4, vR 166]) (dg dc293 10 rfl) rfl rfl ?_
      refine ex_iald (dg dc293 11 rfl) (LOC.st (Nat.le_of_ble_eq_true rfl) rfl) rfl hf (fun _ hf => ?_)
      exact ex_ire (dg dc293 12 rfl) rfl hf
    ·
      refine ex_bif hf (fun hc_8 hf => ?_) (fun hc_8 hf => ?_)
      · refine ex_tsw (t := 68) (dg dc293 4 rfl) hc_8 (by decide +kernel) rfl ⟨by decide, by decide, by decide⟩ rfl ?_
        refine ex_pu (ls' := [vR 165, vI v1]) (st' := [vR 165]) (dg dc293 13 rfl) rfl rfl ?_
        refine ex_getO (dg dc293 14 rfl) rfl (LOC.st (Nat.le_of_ble_eq_true rfl) rfl) rfl ?_
        show EX Z _ 293 _ [vR 165, vI v1] [vR 166] _ _
        refine ex_pu (ls' := [vR 165, vI v1]) (st' := [vI 5, vR 166]) (dg dc293 15 rfl) rfl rfl ?_
        refine ex_iald (dg dc293 16 rfl) (LOC.st (Nat.le_of_ble_eq_true rfl) rfl) rfl hf (fun _ hf => ?_)
        refine ex_pu (ls' := [vR 165, vI v1]) (st' := [vI 1, vI (M_1 166 5)]) (dg dc293 17 rfl) rfl rfl ?_
        refine ex_icmp (t := 89) (dg dc293 18 rfl) rfl hf (fun _ hf => ?_) (fun _ hf => ?_)
        · refine ex_pu (ls' := [vR 165, vI v1]) (st' := [vI (-1)]) (dg dc293 24 rfl) rfl rfl ?_
          exact ex_ire (dg dc293 25 rfl) rfl hf
        · refine ex_pu (ls' := [vR 165, vI v1]) (st' := [vR 165]) (dg dc293 19 rfl) rfl rfl ?_
          refine ex_getO (dg dc293 20 rfl) rfl (LOC.st (Nat.le_of_ble_eq_true rfl) rfl) rfl ?_
          show EX Z _ 293 _ [vR 165, vI v1] [vR 166] _ _
          refine ex_pu (ls' := [vR 165, vI v1]) (st' := [vI 266, vR 166]) (dg dc293 21 rfl) rfl rfl ?_
          refine ex_iald (dg dc293 22 rfl) (LOC.st (Nat.le_of_ble_eq_true rfl) rfl) rfl hf (fun _ hf => ?_)
          refine ex_goto (t := 90) (dg dc293 23 rfl) rfl rfl ?_
          exact ex_ire (dg dc293 25 rfl) rfl hf
      ·
        refine ex_bif hf (fun hc_9 hf => ?_) (fun hc_9 hf => ?_)
        · refine ex_tsw (t := 91) (dg dc293 4 rfl) hc_9 (by decide +kernel) rfl ⟨by decide, by decide, by decide⟩ rfl ?_
          refine ex_pu (ls' := [vR 165, vI v1]) (st' := [vR 165]) (dg dc293 26 rfl) rfl rfl ?_
          refine ex_getO (dg dc293 27 rfl) rfl (LOC.st (Nat.le_of_ble_eq_true rfl) rfl) rfl ?_
          show EX Z _ 293 _ [vR 165, vI v1] [vR 166] _ _
          refine ex_pu (ls' := [vR 165, vI v1]) (st' := [vI 6, vR 166]) (dg dc293 28 rfl) rfl rfl ?_
          refine ex_iald (dg dc293 29 rfl) (LOC.st (Nat.le_of_ble_eq_true rfl) rfl) rfl hf (fun _ hf => ?_)
          exact ex_ire (dg dc293 30 rfl) rfl hf
        ·
          refine ex_bif hf (fun hc_10 hf => ?_) (fun hc_10 hf => ?_)
          · refine ex_tsw (t := 99) (dg dc293 4 rfl) hc_10 (by decide +kernel) rfl ⟨by decide, by decide, by decide⟩ rfl ?_
            refine ex_pu (ls' := [vR 165, vI v1]) (st' := [vR 165]) (dg dc293 31 rfl) rfl rfl ?_
            refine ex_cI (vs := [vR 165]) (st' := []) (F := (mo_passedNow  M_1)) (Or.inr (Or.inl ⟨rfl, (dg dc293 32 rfl)⟩)) rfl rfl (rk1 (LOC.st (Nat.le_of_ble_eq_true rfl) rfl) rfl) rfl (fun _ r9 => mo_passedNow_ok (Z := Z) (d := e9) (by omega)  r9) hf (fun z_13 M_12 he_11 hf => ?_)
            exact ex_ire (dg dc293 33 rfl) rfl hf
          ·
            refine ex_bif hf (fun hc_14 hf => ?_) (fun hc_14 hf => ?_)
            · refine ex_tsw (t := 104) (dg dc293 4 rfl) hc_14 (by decide +kernel) rfl ⟨by decide, by decide, by decide⟩ rfl ?_
              refine ex_pu (ls' := [vR 165, vI v1]) (st' := [vR 165]) (dg dc293 34 rfl) rfl rfl ?_
              refine ex_cI (vs := [vR 165]) (st' := []) (F := (mo_freedNow  M_1)) (Or.inr (Or.inl ⟨rfl, (dg dc293 35 rfl)⟩)) rfl rfl (rk1 (LOC.st (Nat.le_of_ble_eq_true rfl) rfl) rfl) rfl (fun _ r9 => mo_freedNow_ok (Z := Z) (d := e9) (by omega)  r9) hf (fun z_17 M_16 he_15 hf => ?_)
              exact ex_ire (dg dc293 36 rfl) rfl hf
            ·
              refine ex_bif hf (fun hc_18 hf => ?_) (fun hc_18 hf => ?_)
              · refine ex_tsw (t := 109) (dg dc293 4 rfl) hc_18 (by decide +kernel) rfl ⟨by decide, by decide, by decide⟩ rfl ?_
                refine ex_pu (ls' := [vR 165, vI v1]) (st' := [vR 165]) (dg dc293 37 rfl) rfl rfl ?_
                refine ex_pu (ls' := [vR 165, vI v1]) (st' := [vR 165, vR 165]) (dg dc293 38 rfl) rfl rfl ?_
                refine ex_cJ (vs := [vR 165]) (st' := [vR 165]) (F := (mo_now  M_1)) (Or.inr (Or.inl ⟨rfl, (dg dc293 39 rfl)⟩)) rfl rfl (rk1 (LOC.st (Nat.le_of_ble_eq_true rfl) rfl) rfl) rfl (fun _ r9 => mo_now_ok (Z := Z) (d := e9) (by omega)  r9) hf (fun z_21 M_20 he_19 hf => ?_)
                refine ex_pu (ls' := [vR 165, vI v1]) (st' := [vI 3, vJ z_21, vR 165]) (dg dc293 40 rfl) rfl rfl ?_
                refine ex_cI (vs := [vR 165, vJ z_21, vI 3]) (st' := []) (F := (mo_thingsIn z_21 3 M_20)) (Or.inr (Or.inl ⟨rfl, (dg dc293 41 rfl)⟩)) rfl rfl (rk1 (LOC.st (Nat.le_of_ble_eq_true rfl) rfl) rfl) rfl (fun _ r9 => mo_thingsIn_ok (Z := Z) (d := e9) (by omega)  r9) hf (fun z_24 M_23 he_22 hf => ?_)
                exact ex_ire (dg dc293 42 rfl) rfl hf
              ·
                refine ex_bif hf (fun hc_25 hf => ?_) (fun hc_25 hf => ?_)
                · refine ex_tsw (t := 119) (dg dc293 4 rfl) hc_25 (by decide +kernel) rfl ⟨by decide, by decide, by decide⟩ rfl ?_
                  refine ex_pu (ls' := [vR 165, vI v1]) (st' := [vR 165]) (dg dc293 43 rfl) rfl rfl ?_
                  refine ex_pu (ls' := [vR 165, vI v1]) (st' := [vR 165, vR 165]) (dg dc293 44 rfl) rfl rfl ?_
                  refine ex_pu (ls' := [vR 165, vI v1]) (st' := [vR 165, vR 165, vR 165]) (dg dc293 45 rfl) rfl rfl ?_
                  refine ex_cJ (vs := [vR 165]) (st' := [vR 165, vR 165]) (F := (mo_now  M_1)) (Or.inr (Or.inl ⟨rfl, (dg dc293 46 rfl)⟩)) rfl rfl (rk1 (LOC.st (Nat.le_of_ble_eq_true rfl) rfl) rfl) rfl (fun _ r9 => mo_now_ok (Z := Z) (d := e9) (by omega)  r9) hf (fun z_28 M_27 he_26 hf => ?_)
                  refine ex_pu (ls' := [vR 165, vI v1]) (st' := [vI 3, vJ z_28, vR 165, vR 165]) (dg dc293 47 rfl) rfl rfl ?_
                  refine ex_cI (vs := [vR 165, vJ z_28, vI 3]) (st' := [vR 165]) (F := (mo_thingsIn z_28 3 M_27)) (Or.inr (Or.inl ⟨rfl, (dg dc293 48 rfl)⟩)) rfl rfl (rk1 (LOC.st (Nat.le_of_ble_eq_true rfl) rfl) rfl) rfl (fun _ r9 => mo_thingsIn_ok (Z := Z) (d := e9) (by omega)  r9) hf (fun z_31 M_30 he_29 hf => ?_)
                  refine ex_cI (vs := [vR 165, vI z_31]) (st' := []) (F := (mo_worthOf z_31 M_30)) (Or.inr (Or.inl ⟨rfl, (dg dc293 49 rfl)⟩)) rfl rfl (rk1 (LOC.st (Nat.le_of_ble_eq_true rfl) rfl) rfl) rfl (fun _ r9 => mo_worthOf_ok (Z := Z) (d := e9) (by omega)  r9) hf (fun z_34 M_33 he_32 hf => ?_)
                  exact ex_ire (dg dc293 50 rfl) rfl hf
                ·
                  refine ex_bif hf (fun hc_35 hf => ?_) (fun hc_35 hf => ?_)
                  · refine ex_tsw (t := 133) (dg dc293 4 rfl) hc_35 (by decide +kernel) rfl ⟨by decide, by decide, by decide⟩ rfl ?_
                    refine ex_pu (ls' := [vR 165, vI v1]) (st' := [vR 165]) (dg dc293 51 rfl) rfl rfl ?_
                    refine ex_getI (dg dc293 52 rfl) rfl (LOC.st (Nat.le_of_ble_eq_true rfl) rfl) rfl ?_
                    exact ex_ire (dg dc293 53 rfl) rfl hf
                  · refine ex_tsd (t := 138) (dg dc293 4 rfl) (sw_out (lo := 4) (hi := 12) (fun j h1 h2 => by have hj : j = 4 ∨ j = 5 ∨ j = 6 ∨ j = 7 ∨ j = 8 ∨ j = 9 ∨ j = 10 ∨ j = 11 ∨ j = 12 := (by omega); rcases hj with rfl | rfl | rfl | rfl | rfl | rfl | rfl | rfl | rfl <;> first | exact ⟨hc_3, by decide +kernel⟩ | exact ⟨hc_7, by decide +kernel⟩ | exact ⟨hc_8, by decide +kernel⟩ | exact ⟨hc_9, by decide +kernel⟩ | exact ⟨hc_10, by decide +kernel⟩ | exact ⟨hc_14, by decide +kernel⟩ | exact ⟨hc_18, by decide +kernel⟩ | exact ⟨hc_25, by decide +kernel⟩ | exact ⟨hc_35, by decide +kernel⟩)) rfl ?_
                    refine ex_pu (ls' := [vR 165, vI v1]) (st' := [vI v1]) (dg dc293 54 rfl) rfl rfl ?_
                    refine ex_pu (ls' := [vR 165, vI v1]) (st' := [vI 0, vI v1]) (dg dc293 55 rfl) rfl rfl ?_
                    refine ex_pu (ls' := [vR 165, vI v1]) (st' := [vI 3, vI 0, vI v1]) (dg dc293 56 rfl) rfl rfl ?_
                    refine ex_cI (vs := [vI v1, vI 0, vI 3]) (st' := []) (F := (mo_in v1 0 3 M_1)) (Or.inl ⟨rfl, (dg dc293 57 rfl)⟩) rfl rfl (Or.inl rfl) rfl (fun _ r9 => mo_in_ok (Z := Z) (d := e9) (by omega)  r9) hf (fun z_38 M_37 he_36 hf => ?_)
                    refine ex_if (t := 156) (dg dc293 58 rfl) rfl hf (fun _ hf => ?_) (fun _ hf => ?_)
                    · refine ex_pu (ls' := [vR 165, vI v1]) (st' := [vI (-1)]) (dg dc293 64 rfl) rfl rfl ?_
                      exact ex_ire (dg dc293 65 rfl) rfl hf
                    · refine ex_pu (ls' := [vR 165, vI v1]) (st' := [vR 165]) (dg dc293 59 rfl) rfl rfl ?_
                      refine ex_getO (dg dc293 60 rfl) rfl (LOC.st (Nat.le_of_ble_eq_true rfl) rfl) rfl ?_
                      show EX Z _ 293 _ [vR 165, vI v1] [vR 166] _ _
                      refine ex_pu (ls' := [vR 165, vI v1]) (st' := [vI v1, vR 166]) (dg dc293 61 rfl) rfl rfl ?_
                      refine ex_iald (dg dc293 62 rfl) (LOC.st (Nat.le_of_ble_eq_true rfl) rfl) rfl hf (fun _ hf => ?_)
                      refine ex_goto (t := 157) (dg dc293 63 rfl) rfl rfl ?_
                      exact ex_ire (dg dc293 65 rfl) rfl hf
-- java/lang/Integer.bitCount
def il294 : List (Nat × Instr × Nat) := [(0, .iload_n 0, 1), (1, .iload_n 0, 1), (2, .iconst 1, 1), (3, .iushr, 1), (4, .ldc_w 265, 3), (7, .iand, 1), (8, .isub, 1), (9, .istore_n 0, 1), (10, .iload_n 0, 1), (11, .ldc_w 266, 3), (14, .iand, 1), (15, .iload_n 0, 1), (16, .iconst 2, 1), (17, .iushr, 1), (18, .ldc_w 266, 3), (21, .iand, 1), (22, .iadd, 1), (23, .istore_n 0, 1), (24, .iload_n 0, 1), (25, .iload_n 0, 1), (26, .iconst 4, 1), (27, .iushr, 1), (28, .iadd, 1), (29, .ldc_w 267, 3), (32, .iand, 1), (33, .istore_n 0, 1), (34, .iload_n 0, 1), (35, .iload_n 0, 1), (36, .bipush 8, 2), (38, .iushr, 1), (39, .iadd, 1), (40, .istore_n 0, 1), (41, .iload_n 0, 1), (42, .iload_n 0, 1), (43, .bipush 16, 2), (45, .iushr, 1), (46, .iadd, 1), (47, .istore_n 0, 1), (48, .iload_n 0, 1), (49, .bipush 63, 2), (51, .iand, 1), (52, .ireturn, 1)]
theorem dc294 : dcs (mC 294) il294 := dc_of (by decide +kernel)
def jdk_bitCount (v0 : Int) (M : MM) : OR :=
  some (rI (iAnd (((iAnd (((iAnd (v0 - (iAnd (iUshr v0 1) 1431655765)) 858993459) + (iAnd (iUshr (v0 - (iAnd (iUshr v0 1) 1431655765)) 2) 858993459)) + (iUshr ((iAnd (v0 - (iAnd (iUshr v0 1) 1431655765)) 858993459) + (iAnd (iUshr (v0 - (iAnd (iUshr v0 1) 1431655765)) 2) 858993459)) 4)) 252645135) + (iUshr (iAnd (((iAnd (v0 - (iAnd (iUshr v0 1) 1431655765)) 858993459) + (iAnd (iUshr (v0 - (iAnd (iUshr v0 1) 1431655765)) 2) 858993459)) + (iUshr ((iAnd (v0 - (iAnd (iUshr v0 1) 1431655765)) 858993459) + (iAnd (iUshr (v0 - (iAnd (iUshr v0 1) 1431655765)) 2) 858993459)) 4)) 252645135) 8)) + (iUshr ((iAnd (((iAnd (v0 - (iAnd (iUshr v0 1) 1431655765)) 858993459) + (iAnd (iUshr (v0 - (iAnd (iUshr v0 1) 1431655765)) 2) 858993459)) + (iUshr ((iAnd (v0 - (iAnd (iUshr v0 1) 1431655765)) 858993459) + (iAnd (iUshr (v0 - (iAnd (iUshr v0 1) 1431655765)) 2) 858993459)) 4)) 252645135) + (iUshr (iAnd (((iAnd (v0 - (iAnd (iUshr v0 1) 1431655765)) 858993459) + (iAnd (iUshr (v0 - (iAnd (iUshr v0 1) 1431655765)) 2) 858993459)) + (iUshr ((iAnd (v0 - (iAnd (iUshr v0 1) 1431655765)) 858993459) + (iAnd (iUshr (v0 - (iAnd (iUshr v0 1) 1431655765)) 2) 858993459)) 4)) 252645135) 8)) 16)) 63), M)
set_option maxRecDepth 4000 in
theorem jdk_bitCount_ok {Z : Nat × (Nat → Int)} {d : Nat} (hd : 0 ≤ d) {M : MM}  {v0 : Int} {res : AR × MM} (hf : jdk_bitCount v0 M = some res) : EX Z d 294 0 (ent 294 [vI v0]) [] M res := by
  unfold jdk_bitCount at hf
  show EX Z _ 294 0 [vI v0] [] M res
  refine ex_pu (ls' := [vI v0]) (st' := [vI v0]) (dg dc294 0 rfl) rfl rfl ?_
  refine ex_pu (ls' := [vI v0]) (st' := [vI v0, vI v0]) (dg dc294 1 rfl) rfl rfl ?_
  refine ex_pu (ls' := [vI v0]) (st' := [vI 1, vI v0, vI v0]) (dg dc294 2 rfl) rfl rfl ?_
  refine ex_pu (ls' := [vI v0]) (st' := [vI (iUshr v0 1), vI v0]) (dg dc294 3 rfl) rfl rfl ?_
  refine ex_ldcW (dg dc294 4 rfl) rfl ?_
  refine ex_pu (ls' := [vI v0]) (st' := [vI (iAnd (iUshr v0 1) 1431655765), vI v0]) (dg dc294 5 rfl) rfl rfl ?_
  refine ex_pu (ls' := [vI v0]) (st' := [vI (v0 - (iAnd (iUshr v0 1) 1431655765))]) (dg dc294 6 rfl) rfl rfl ?_
  refine ex_pu (ls' := [vI (v0 - (iAnd (iUshr v0 1) 1431655765))]) (st' := []) (dg dc294 7 rfl) rfl rfl ?_
  refine ex_pu (ls' := [vI (v0 - (iAnd (iUshr v0 1) 1431655765))]) (st' := [vI (v0 - (iAnd (iUshr v0 1) 1431655765))]) (dg dc294 8 rfl) rfl rfl ?_
  refine ex_ldcW (dg dc294 9 rfl) rfl ?_
  refine ex_pu (ls' := [vI (v0 - (iAnd (iUshr v0 1) 1431655765))]) (st' := [vI (iAnd (v0 - (iAnd (iUshr v0 1) 1431655765)) 858993459)]) (dg dc294 10 rfl) rfl rfl ?_
  refine ex_pu (ls' := [vI (v0 - (iAnd (iUshr v0 1) 1431655765))]) (st' := [vI (v0 - (iAnd (iUshr v0 1) 1431655765)), vI (iAnd (v0 - (iAnd (iUshr v0 1) 1431655765)) 858993459)]) (dg dc294 11 rfl) rfl rfl ?_
  refine ex_pu (ls' := [vI (v0 - (iAnd (iUshr v0 1) 1431655765))]) (st' := [vI 2, vI (v0 - (iAnd (iUshr v0 1) 1431655765)), vI (iAnd (v0 - (iAnd (iUshr v0 1) 1431655765)) 858993459)]) (dg dc294 12 rfl) rfl rfl ?_
  refine ex_pu (ls' := [vI (v0 - (iAnd (iUshr v0 1) 1431655765))]) (st' := [vI (iUshr (v0 - (iAnd (iUshr v0 1) 1431655765)) 2), vI (iAnd (v0 - (iAnd (iUshr v0 1) 1431655765)) 858993459)]) (dg dc294 13 rfl) rfl rfl ?_
  refine ex_ldcW (dg dc294 14 rfl) rfl ?_
  refine ex_pu (ls' := [vI (v0 - (iAnd (iUshr v0 1) 1431655765))]) (st' := [vI (iAnd (iUshr (v0 - (iAnd (iUshr v0 1) 1431655765)) 2) 858993459), vI (iAnd (v0 - (iAnd (iUshr v0 1) 1431655765)) 858993459)]) (dg dc294 15 rfl) rfl rfl ?_
  refine ex_pu (ls' := [vI (v0 - (iAnd (iUshr v0 1) 1431655765))]) (st' := [vI ((iAnd (v0 - (iAnd (iUshr v0 1) 1431655765)) 858993459) + (iAnd (iUshr (v0 - (iAnd (iUshr v0 1) 1431655765)) 2) 858993459))]) (dg dc294 16 rfl) rfl rfl ?_
  refine ex_pu (ls' := [vI ((iAnd (v0 - (iAnd (iUshr v0 1) 1431655765)) 858993459) + (iAnd (iUshr (v0 - (iAnd (iUshr v0 1) 1431655765)) 2) 858993459))]) (st' := []) (dg dc294 17 rfl) rfl rfl ?_
  refine ex_pu (ls' := [vI ((iAnd (v0 - (iAnd (iUshr v0 1) 1431655765)) 858993459) + (iAnd (iUshr (v0 - (iAnd (iUshr v0 1) 1431655765)) 2) 858993459))]) (st' := [vI ((iAnd (v0 - (iAnd (iUshr v0 1) 1431655765)) 858993459) + (iAnd (iUshr (v0 - (iAnd (iUshr v0 1) 1431655765)) 2) 858993459))]) (dg dc294 18 rfl) rfl rfl ?_
  refine ex_pu (ls' := [vI ((iAnd (v0 - (iAnd (iUshr v0 1) 1431655765)) 858993459) + (iAnd (iUshr (v0 - (iAnd (iUshr v0 1) 1431655765)) 2) 858993459))]) (st' := [vI ((iAnd (v0 - (iAnd (iUshr v0 1) 1431655765)) 858993459) + (iAnd (iUshr (v0 - (iAnd (iUshr v0 1) 1431655765)) 2) 858993459)), vI ((iAnd (v0 - (iAnd (iUshr v0 1) 1431655765)) 858993459) + (iAnd (iUshr (v0 - (iAnd (iUshr v0 1) 1431655765)) 2) 858993459))]) (dg dc294 19 rfl) rfl rfl ?_
  refine ex_pu (ls' := [vI ((iAnd (v0 - (iAnd (iUshr v0 1) 1431655765)) 858993459) + (iAnd (iUshr (v0 - (iAnd (iUshr v0 1) 1431655765)) 2) 858993459))]) (st' := [vI 4, vI ((iAnd (v0 - (iAnd (iUshr v0 1) 1431655765)) 858993459) + (iAnd (iUshr (v0 - (iAnd (iUshr v0 1) 1431655765)) 2) 858993459)), vI ((iAnd (v0 - (iAnd (iUshr v0 1) 1431655765)) 858993459) + (iAnd (iUshr (v0 - (iAnd (iUshr v0 1) 1431655765)) 2) 858993459))]) (dg dc294 20 rfl) rfl rfl ?_
  refine ex_pu (ls' := [vI ((iAnd (v0 - (iAnd (iUshr v0 1) 1431655765)) 858993459) + (iAnd (iUshr (v0 - (iAnd (iUshr v0 1) 1431655765)) 2) 858993459))]) (st' := [vI (iUshr ((iAnd (v0 - (iAnd (iUshr v0 1) 1431655765)) 858993459) + (iAnd (iUshr (v0 - (iAnd (iUshr v0 1) 1431655765)) 2) 858993459)) 4), vI ((iAnd (v0 - (iAnd (iUshr v0 1) 1431655765)) 858993459) + (iAnd (iUshr (v0 - (iAnd (iUshr v0 1) 1431655765)) 2) 858993459))]) (dg dc294 21 rfl) rfl rfl ?_
  refine ex_pu (ls' := [vI ((iAnd (v0 - (iAnd (iUshr v0 1) 1431655765)) 858993459) + (iAnd (iUshr (v0 - (iAnd (iUshr v0 1) 1431655765)) 2) 858993459))]) (st' := [vI (((iAnd (v0 - (iAnd (iUshr v0 1) 1431655765)) 858993459) + (iAnd (iUshr (v0 - (iAnd (iUshr v0 1) 1431655765)) 2) 858993459)) + (iUshr ((iAnd (v0 - (iAnd (iUshr v0 1) 1431655765)) 858993459) + (iAnd (iUshr (v0 - (iAnd (iUshr v0 1) 1431655765)) 2) 858993459)) 4))]) (dg dc294 22 rfl) rfl rfl ?_
  refine ex_ldcW (dg dc294 23 rfl) rfl ?_
  refine ex_pu (ls' := [vI ((iAnd (v0 - (iAnd (iUshr v0 1) 1431655765)) 858993459) + (iAnd (iUshr (v0 - (iAnd (iUshr v0 1) 1431655765)) 2) 858993459))]) (st' := [vI (iAnd (((iAnd (v0 - (iAnd (iUshr v0 1) 1431655765)) 858993459) + (iAnd (iUshr (v0 - (iAnd (iUshr v0 1) 1431655765)) 2) 858993459)) + (iUshr ((iAnd (v0 - (iAnd (iUshr v0 1) 1431655765)) 858993459) + (iAnd (iUshr (v0 - (iAnd (iUshr v0 1) 1431655765)) 2) 858993459)) 4)) 252645135)]) (dg dc294 24 rfl) rfl rfl ?_
  refine ex_pu (ls' := [vI (iAnd (((iAnd (v0 - (iAnd (iUshr v0 1) 1431655765)) 858993459) + (iAnd (iUshr (v0 - (iAnd (iUshr v0 1) 1431655765)) 2) 858993459)) + (iUshr ((iAnd (v0 - (iAnd (iUshr v0 1) 1431655765)) 858993459) + (iAnd (iUshr (v0 - (iAnd (iUshr v0 1) 1431655765)) 2) 858993459)) 4)) 252645135)]) (st' := []) (dg dc294 25 rfl) rfl rfl ?_
  refine ex_pu (ls' := [vI (iAnd (((iAnd (v0 - (iAnd (iUshr v0 1) 1431655765)) 858993459) + (iAnd (iUshr (v0 - (iAnd (iUshr v0 1) 1431655765)) 2) 858993459)) + (iUshr ((iAnd (v0 - (iAnd (iUshr v0 1) 1431655765)) 858993459) + (iAnd (iUshr (v0 - (iAnd (iUshr v0 1) 1431655765)) 2) 858993459)) 4)) 252645135)]) (st' := [vI (iAnd (((iAnd (v0 - (iAnd (iUshr v0 1) 1431655765)) 858993459) + (iAnd (iUshr (v0 - (iAnd (iUshr v0 1) 1431655765)) 2) 858993459)) + (iUshr ((iAnd (v0 - (iAnd (iUshr v0 1) 1431655765)) 858993459) + (iAnd (iUshr (v0 - (iAnd (iUshr v0 1) 1431655765)) 2) 858993459)) 4)) 252645135)]) (dg dc294 26 rfl) rfl rfl ?_
  refine ex_pu (ls' := [vI (iAnd (((iAnd (v0 - (iAnd (iUshr v0 1) 1431655765)) 858993459) + (iAnd (iUshr (v0 - (iAnd (iUshr v0 1) 1431655765)) 2) 858993459)) + (iUshr ((iAnd (v0 - (iAnd (iUshr v0 1) 1431655765)) 858993459) + (iAnd (iUshr (v0 - (iAnd (iUshr v0 1) 1431655765)) 2) 858993459)) 4)) 252645135)]) (st' := [vI (iAnd (((iAnd (v0 - (iAnd (iUshr v0 1) 1431655765)) 858993459) + (iAnd (iUshr (v0 - (iAnd (iUshr v0 1) 1431655765)) 2) 858993459)) + (iUshr ((iAnd (v0 - (iAnd (iUshr v0 1) 1431655765)) 858993459) + (iAnd (iUshr (v0 - (iAnd (iUshr v0 1) 1431655765)) 2) 858993459)) 4)) 252645135), vI (iAnd (((iAnd (v0 - (iAnd (iUshr v0 1) 1431655765)) 858993459) + (iAnd (iUshr (v0 - (iAnd (iUshr v0 1) 1431655765)) 2) 858993459)) + (iUshr ((iAnd (v0 - (iAnd (iUshr v0 1) 1431655765)) 858993459) + (iAnd (iUshr (v0 - (iAnd (iUshr v0 1) 1431655765)) 2) 858993459)) 4)) 252645135)]) (dg dc294 27 rfl) rfl rfl ?_
  refine ex_pu (ls' := [vI (iAnd (((iAnd (v0 - (iAnd (iUshr v0 1) 1431655765)) 858993459) + (iAnd (iUshr (v0 - (iAnd (iUshr v0 1) 1431655765)) 2) 858993459)) + (iUshr ((iAnd (v0 - (iAnd (iUshr v0 1) 1431655765)) 858993459) + (iAnd (iUshr (v0 - (iAnd (iUshr v0 1) 1431655765)) 2) 858993459)) 4)) 252645135)]) (st' := [vI 8, vI (iAnd (((iAnd (v0 - (iAnd (iUshr v0 1) 1431655765)) 858993459) + (iAnd (iUshr (v0 - (iAnd (iUshr v0 1) 1431655765)) 2) 858993459)) + (iUshr ((iAnd (v0 - (iAnd (iUshr v0 1) 1431655765)) 858993459) + (iAnd (iUshr (v0 - (iAnd (iUshr v0 1) 1431655765)) 2) 858993459)) 4)) 252645135), vI (iAnd (((iAnd (v0 - (iAnd (iUshr v0 1) 1431655765)) 858993459) + (iAnd (iUshr (v0 - (iAnd (iUshr v0 1) 1431655765)) 2) 858993459)) + (iUshr ((iAnd (v0 - (iAnd (iUshr v0 1) 1431655765)) 858993459) + (iAnd (iUshr (v0 - (iAnd (iUshr v0 1) 1431655765)) 2) 858993459)) 4)) 252645135)]) (dg dc294 28 rfl) rfl rfl ?_
  refine ex_pu (ls' := [vI (iAnd (((iAnd (v0 - (iAnd (iUshr v0 1) 1431655765)) 858993459) + (iAnd (iUshr (v0 - (iAnd (iUshr v0 1) 1431655765)) 2) 858993459)) + (iUshr ((iAnd (v0 - (iAnd (iUshr v0 1) 1431655765)) 858993459) + (iAnd (iUshr (v0 - (iAnd (iUshr v0 1) 1431655765)) 2) 858993459)) 4)) 252645135)]) (st' := [vI (iUshr (iAnd (((iAnd (v0 - (iAnd (iUshr v0 1) 1431655765)) 858993459) + (iAnd (iUshr (v0 - (iAnd (iUshr v0 1) 1431655765)) 2) 858993459)) + (iUshr ((iAnd (v0 - (iAnd (iUshr v0 1) 1431655765)) 858993459) + (iAnd (iUshr (v0 - (iAnd (iUshr v0 1) 1431655765)) 2) 858993459)) 4)) 252645135) 8), vI (iAnd (((iAnd (v0 - (iAnd (iUshr v0 1) 1431655765)) 858993459) + (iAnd (iUshr (v0 - (iAnd (iUshr v0 1) 1431655765)) 2) 858993459)) + (iUshr ((iAnd (v0 - (iAnd (iUshr v0 1) 1431655765)) 858993459) + (iAnd (iUshr (v0 - (iAnd (iUshr v0 1) 1431655765)) 2) 858993459)) 4)) 252645135)]) (dg dc294 29 rfl) rfl rfl ?_
  refine ex_pu (ls' := [vI (iAnd (((iAnd (v0 - (iAnd (iUshr v0 1) 1431655765)) 858993459) + (iAnd (iUshr (v0 - (iAnd (iUshr v0 1) 1431655765)) 2) 858993459)) + (iUshr ((iAnd (v0 - (iAnd (iUshr v0 1) 1431655765)) 858993459) + (iAnd (iUshr (v0 - (iAnd (iUshr v0 1) 1431655765)) 2) 858993459)) 4)) 252645135)]) (st' := [vI ((iAnd (((iAnd (v0 - (iAnd (iUshr v0 1) 1431655765)) 858993459) + (iAnd (iUshr (v0 - (iAnd (iUshr v0 1) 1431655765)) 2) 858993459)) + (iUshr ((iAnd (v0 - (iAnd (iUshr v0 1) 1431655765)) 858993459) + (iAnd (iUshr (v0 - (iAnd (iUshr v0 1) 1431655765)) 2) 858993459)) 4)) 252645135) + (iUshr (iAnd (((iAnd (v0 - (iAnd (iUshr v0 1) 1431655765)) 858993459) + (iAnd (iUshr (v0 - (iAnd (iUshr v0 1) 1431655765)) 2) 858993459)) + (iUshr ((iAnd (v0 - (iAnd (iUshr v0 1) 1431655765)) 858993459) + (iAnd (iUshr (v0 - (iAnd (iUshr v0 1) 1431655765)) 2) 858993459)) 4)) 252645135) 8))]) (dg dc294 30 rfl) rfl rfl ?_
  refine ex_pu (ls' := [vI ((iAnd (((iAnd (v0 - (iAnd (iUshr v0 1) 1431655765)) 858993459) + (iAnd (iUshr (v0 - (iAnd (iUshr v0 1) 1431655765)) 2) 858993459)) + (iUshr ((iAnd (v0 - (iAnd (iUshr v0 1) 1431655765)) 858993459) + (iAnd (iUshr (v0 - (iAnd (iUshr v0 1) 1431655765)) 2) 858993459)) 4)) 252645135) + (iUshr (iAnd (((iAnd (v0 - (iAnd (iUshr v0 1) 1431655765)) 858993459) + (iAnd (iUshr (v0 - (iAnd (iUshr v0 1) 1431655765)) 2) 858993459)) + (iUshr ((iAnd (v0 - (iAnd (iUshr v0 1) 1431655765)) 858993459) + (iAnd (iUshr (v0 - (iAnd (iUshr v0 1) 1431655765)) 2) 858993459)) 4)) 252645135) 8))]) (st' := []) (dg dc294 31 rfl) rfl rfl ?_
  refine ex_pu (ls' := [vI ((iAnd (((iAnd (v0 - (iAnd (iUshr v0 1) 1431655765)) 858993459) + (iAnd (iUshr (v0 - (iAnd (iUshr v0 1) 1431655765)) 2) 858993459)) + (iUshr ((iAnd (v0 - (iAnd (iUshr v0 1) 1431655765)) 858993459) + (iAnd (iUshr (v0 - (iAnd (iUshr v0 1) 1431655765)) 2) 858993459)) 4)) 252645135) + (iUshr (iAnd (((iAnd (v0 - (iAnd (iUshr v0 1) 1431655765)) 858993459) + (iAnd (iUshr (v0 - (iAnd (iUshr v0 1) 1431655765)) 2) 858993459)) + (iUshr ((iAnd (v0 - (iAnd (iUshr v0 1) 1431655765)) 858993459) + (iAnd (iUshr (v0 - (iAnd (iUshr v0 1) 1431655765)) 2) 858993459)) 4)) 252645135) 8))]) (st' := [vI ((iAnd (((iAnd (v0 - (iAnd (iUshr v0 1) 1431655765)) 858993459) + (iAnd (iUshr (v0 - (iAnd (iUshr v0 1) 1431655765)) 2) 858993459)) + (iUshr ((iAnd (v0 - (iAnd (iUshr v0 1) 1431655765)) 858993459) + (iAnd (iUshr (v0 - (iAnd (iUshr v0 1) 1431655765)) 2) 858993459)) 4)) 252645135) + (iUshr (iAnd (((iAnd (v0 - (iAnd (iUshr v0 1) 1431655765)) 858993459) + (iAnd (iUshr (v0 - (iAnd (iUshr v0 1) 1431655765)) 2) 858993459)) + (iUshr ((iAnd (v0 - (iAnd (iUshr v0 1) 1431655765)) 858993459) + (iAnd (iUshr (v0 - (iAnd (iUshr v0 1) 1431655765)) 2) 858993459)) 4)) 252645135) 8))]) (dg dc294 32 rfl) rfl rfl ?_
  refine ex_pu (ls' := [vI ((iAnd (((iAnd (v0 - (iAnd (iUshr v0 1) 1431655765)) 858993459) + (iAnd (iUshr (v0 - (iAnd (iUshr v0 1) 1431655765)) 2) 858993459)) + (iUshr ((iAnd (v0 - (iAnd (iUshr v0 1) 1431655765)) 858993459) + (iAnd (iUshr (v0 - (iAnd (iUshr v0 1) 1431655765)) 2) 858993459)) 4)) 252645135) + (iUshr (iAnd (((iAnd (v0 - (iAnd (iUshr v0 1) 1431655765)) 858993459) + (iAnd (iUshr (v0 - (iAnd (iUshr v0 1) 1431655765)) 2) 858993459)) + (iUshr ((iAnd (v0 - (iAnd (iUshr v0 1) 1431655765)) 858993459) + (iAnd (iUshr (v0 - (iAnd (iUshr v0 1) 1431655765)) 2) 858993459)) 4)) 252645135) 8))]) (st' := [vI ((iAnd (((iAnd (v0 - (iAnd (iUshr v0 1) 1431655765)) 858993459) + (iAnd (iUshr (v0 - (iAnd (iUshr v0 1) 1431655765)) 2) 858993459)) + (iUshr ((iAnd (v0 - (iAnd (iUshr v0 1) 1431655765)) 858993459) + (iAnd (iUshr (v0 - (iAnd (iUshr v0 1) 1431655765)) 2) 858993459)) 4)) 252645135) + (iUshr (iAnd (((iAnd (v0 - (iAnd (iUshr v0 1) 1431655765)) 858993459) + (iAnd (iUshr (v0 - (iAnd (iUshr v0 1) 1431655765)) 2) 858993459)) + (iUshr ((iAnd (v0 - (iAnd (iUshr v0 1) 1431655765)) 858993459) + (iAnd (iUshr (v0 - (iAnd (iUshr v0 1) 1431655765)) 2) 858993459)) 4)) 252645135) 8)), vI ((iAnd (((iAnd (v0 - (iAnd (iUshr v0 1) 1431655765)) 858993459) + (iAnd (iUshr (v0 - (iAnd (iUshr v0 1) 1431655765)) 2) 858993459)) + (iUshr ((iAnd (v0 - (iAnd (iUshr v0 1) 1431655765)) 858993459) + (iAnd (iUshr (v0 - (iAnd (iUshr v0 1) 1431655765)) 2) 858993459)) 4)) 252645135) + (iUshr (iAnd (((iAnd (v0 - (iAnd (iUshr v0 1) 1431655765)) 858993459) + (iAnd (iUshr (v0 - (iAnd (iUshr v0 1) 1431655765)) 2) 858993459)) + (iUshr ((iAnd (v0 - (iAnd (iUshr v0 1) 1431655765)) 858993459) + (iAnd (iUshr (v0 - (iAnd (iUshr v0 1) 1431655765)) 2) 858993459)) 4)) 252645135) 8))]) (dg dc294 33 rfl) rfl rfl ?_
  refine ex_pu (ls' := [vI ((iAnd (((iAnd (v0 - (iAnd (iUshr v0 1) 1431655765)) 858993459) + (iAnd (iUshr (v0 - (iAnd (iUshr v0 1) 1431655765)) 2) 858993459)) + (iUshr ((iAnd (v0 - (iAnd (iUshr v0 1) 1431655765)) 858993459) + (iAnd (iUshr (v0 - (iAnd (iUshr v0 1) 1431655765)) 2) 858993459)) 4)) 252645135) + (iUshr (iAnd (((iAnd (v0 - (iAnd (iUshr v0 1) 1431655765)) 858993459) + (iAnd (iUshr (v0 - (iAnd (iUshr v0 1) 1431655765)) 2) 858993459)) + (iUshr ((iAnd (v0 - (iAnd (iUshr v0 1) 1431655765)) 858993459) + (iAnd (iUshr (v0 - (iAnd (iUshr v0 1) 1431655765)) 2) 858993459)) 4)) 252645135) 8))]) (st' := [vI 16, vI ((iAnd (((iAnd (v0 - (iAnd (iUshr v0 1) 1431655765)) 858993459) + (iAnd (iUshr (v0 - (iAnd (iUshr v0 1) 1431655765)) 2) 858993459)) + (iUshr ((iAnd (v0 - (iAnd (iUshr v0 1) 1431655765)) 858993459) + (iAnd (iUshr (v0 - (iAnd (iUshr v0 1) 1431655765)) 2) 858993459)) 4)) 252645135) + (iUshr (iAnd (((iAnd (v0 - (iAnd (iUshr v0 1) 1431655765)) 858993459) + (iAnd (iUshr (v0 - (iAnd (iUshr v0 1) 1431655765)) 2) 858993459)) + (iUshr ((iAnd (v0 - (iAnd (iUshr v0 1) 1431655765)) 858993459) + (iAnd (iUshr (v0 - (iAnd (iUshr v0 1) 1431655765)) 2) 858993459)) 4)) 252645135) 8)), vI ((iAnd (((iAnd (v0 - (iAnd (iUshr v0 1) 1431655765)) 858993459) + (iAnd (iUshr (v0 - (iAnd (iUshr v0 1) 1431655765)) 2) 858993459)) + (iUshr ((iAnd (v0 - (iAnd (iUshr v0 1) 1431655765)) 858993459) + (iAnd (iUshr (v0 - (iAnd (iUshr v0 1) 1431655765)) 2) 858993459)) 4)) 252645135) + (iUshr (iAnd (((iAnd (v0 - (iAnd (iUshr v0 1) 1431655765)) 858993459) + (iAnd (iUshr (v0 - (iAnd (iUshr v0 1) 1431655765)) 2) 858993459)) + (iUshr ((iAnd (v0 - (iAnd (iUshr v0 1) 1431655765)) 858993459) + (iAnd (iUshr (v0 - (iAnd (iUshr v0 1) 1431655765)) 2) 858993459)) 4)) 252645135) 8))]) (dg dc294 34 rfl) rfl rfl ?_
  refine ex_pu (ls' := [vI ((iAnd (((iAnd (v0 - (iAnd (iUshr v0 1) 1431655765)) 858993459) + (iAnd (iUshr (v0 - (iAnd (iUshr v0 1) 1431655765)) 2) 858993459)) + (iUshr ((iAnd (v0 - (iAnd (iUshr v0 1) 1431655765)) 858993459) + (iAnd (iUshr (v0 - (iAnd (iUshr v0 1) 1431655765)) 2) 858993459)) 4)) 252645135) + (iUshr (iAnd (((iAnd (v0 - (iAnd (iUshr v0 1) 1431655765)) 858993459) + (iAnd (iUshr (v0 - (iAnd (iUshr v0 1) 1431655765)) 2) 858993459)) + (iUshr ((iAnd (v0 - (iAnd (iUshr v0 1) 1431655765)) 858993459) + (iAnd (iUshr (v0 - (iAnd (iUshr v0 1) 1431655765)) 2) 858993459)) 4)) 252645135) 8))]) (st' := [vI (iUshr ((iAnd (((iAnd (v0 - (iAnd (iUshr v0 1) 1431655765)) 858993459) + (iAnd (iUshr (v0 - (iAnd (iUshr v0 1) 1431655765)) 2) 858993459)) + (iUshr ((iAnd (v0 - (iAnd (iUshr v0 1) 1431655765)) 858993459) + (iAnd (iUshr (v0 - (iAnd (iUshr v0 1) 1431655765)) 2) 858993459)) 4)) 252645135) + (iUshr (iAnd (((iAnd (v0 - (iAnd (iUshr v0 1) 1431655765)) 858993459) + (iAnd (iUshr (v0 - (iAnd (iUshr v0 1) 1431655765)) 2) 858993459)) + (iUshr ((iAnd (v0 - (iAnd (iUshr v0 1) 1431655765)) 858993459) + (iAnd (iUshr (v0 - (iAnd (iUshr v0 1) 1431655765)) 2) 858993459)) 4)) 252645135) 8)) 16), vI ((iAnd (((iAnd (v0 - (iAnd (iUshr v0 1) 1431655765)) 858993459) + (iAnd (iUshr (v0 - (iAnd (iUshr v0 1) 1431655765)) 2) 858993459)) + (iUshr ((iAnd (v0 - (iAnd (iUshr v0 1) 1431655765)) 858993459) + (iAnd (iUshr (v0 - (iAnd (iUshr v0 1) 1431655765)) 2) 858993459)) 4)) 252645135) + (iUshr (iAnd (((iAnd (v0 - (iAnd (iUshr v0 1) 1431655765)) 858993459) + (iAnd (iUshr (v0 - (iAnd (iUshr v0 1) 1431655765)) 2) 858993459)) + (iUshr ((iAnd (v0 - (iAnd (iUshr v0 1) 1431655765)) 858993459) + (iAnd (iUshr (v0 - (iAnd (iUshr v0 1) 1431655765)) 2) 858993459)) 4)) 252645135) 8))]) (dg dc294 35 rfl) rfl rfl ?_
  refine ex_pu (ls' := [vI ((iAnd (((iAnd (v0 - (iAnd (iUshr v0 1) 1431655765)) 858993459) + (iAnd (iUshr (v0 - (iAnd (iUshr v0 1) 1431655765)) 2) 858993459)) + (iUshr ((iAnd (v0 - (iAnd (iUshr v0 1) 1431655765)) 858993459) + (iAnd (iUshr (v0 - (iAnd (iUshr v0 1) 1431655765)) 2) 858993459)) 4)) 252645135) + (iUshr (iAnd (((iAnd (v0 - (iAnd (iUshr v0 1) 1431655765)) 858993459) + (iAnd (iUshr (v0 - (iAnd (iUshr v0 1) 1431655765)) 2) 858993459)) + (iUshr ((iAnd (v0 - (iAnd (iUshr v0 1) 1431655765)) 858993459) + (iAnd (iUshr (v0 - (iAnd (iUshr v0 1) 1431655765)) 2) 858993459)) 4)) 252645135) 8))]) (st' := [vI (((iAnd (((iAnd (v0 - (iAnd (iUshr v0 1) 1431655765)) 858993459) + (iAnd (iUshr (v0 - (iAnd (iUshr v0 1) 1431655765)) 2) 858993459)) + (iUshr ((iAnd (v0 - (iAnd (iUshr v0 1) 1431655765)) 858993459) + (iAnd (iUshr (v0 - (iAnd (iUshr v0 1) 1431655765)) 2) 858993459)) 4)) 252645135) + (iUshr (iAnd (((iAnd (v0 - (iAnd (iUshr v0 1) 1431655765)) 858993459) + (iAnd (iUshr (v0 - (iAnd (iUshr v0 1) 1431655765)) 2) 858993459)) + (iUshr ((iAnd (v0 - (iAnd (iUshr v0 1) 1431655765)) 858993459) + (iAnd (iUshr (v0 - (iAnd (iUshr v0 1) 1431655765)) 2) 858993459)) 4)) 252645135) 8)) + (iUshr ((iAnd (((iAnd (v0 - (iAnd (iUshr v0 1) 1431655765)) 858993459) + (iAnd (iUshr (v0 - (iAnd (iUshr v0 1) 1431655765)) 2) 858993459)) + (iUshr ((iAnd (v0 - (iAnd (iUshr v0 1) 1431655765)) 858993459) + (iAnd (iUshr (v0 - (iAnd (iUshr v0 1) 1431655765)) 2) 858993459)) 4)) 252645135) + (iUshr (iAnd (((iAnd (v0 - (iAnd (iUshr v0 1) 1431655765)) 858993459) + (iAnd (iUshr (v0 - (iAnd (iUshr v0 1) 1431655765)) 2) 858993459)) + (iUshr ((iAnd (v0 - (iAnd (iUshr v0 1) 1431655765)) 858993459) + (iAnd (iUshr (v0 - (iAnd (iUshr v0 1) 1431655765)) 2) 858993459)) 4)) 252645135) 8)) 16))]) (dg dc294 36 rfl) rfl rfl ?_
  refine ex_pu (ls' := [vI (((iAnd (((iAnd (v0 - (iAnd (iUshr v0 1) 1431655765)) 858993459) + (iAnd (iUshr (v0 - (iAnd (iUshr v0 1) 1431655765)) 2) 858993459)) + (iUshr ((iAnd (v0 - (iAnd (iUshr v0 1) 1431655765)) 858993459) + (iAnd (iUshr (v0 - (iAnd (iUshr v0 1) 1431655765)) 2) 858993459)) 4)) 252645135) + (iUshr (iAnd (((iAnd (v0 - (iAnd (iUshr v0 1) 1431655765)) 858993459) + (iAnd (iUshr (v0 - (iAnd (iUshr v0 1) 1431655765)) 2) 858993459)) + (iUshr ((iAnd (v0 - (iAnd (iUshr v0 1) 1431655765)) 858993459) + (iAnd (iUshr (v0 - (iAnd (iUshr v0 1) 1431655765)) 2) 858993459)) 4)) 252645135) 8)) + (iUshr ((iAnd (((iAnd (v0 - (iAnd (iUshr v0 1) 1431655765)) 858993459) + (iAnd (iUshr (v0 - (iAnd (iUshr v0 1) 1431655765)) 2) 858993459)) + (iUshr ((iAnd (v0 - (iAnd (iUshr v0 1) 1431655765)) 858993459) + (iAnd (iUshr (v0 - (iAnd (iUshr v0 1) 1431655765)) 2) 858993459)) 4)) 252645135) + (iUshr (iAnd (((iAnd (v0 - (iAnd (iUshr v0 1) 1431655765)) 858993459) + (iAnd (iUshr (v0 - (iAnd (iUshr v0 1) 1431655765)) 2) 858993459)) + (iUshr ((iAnd (v0 - (iAnd (iUshr v0 1) 1431655765)) 858993459) + (iAnd (iUshr (v0 - (iAnd (iUshr v0 1) 1431655765)) 2) 858993459)) 4)) 252645135) 8)) 16))]) (st' := []) (dg dc294 37 rfl) rfl rfl ?_
  refine ex_pu (ls' := [vI (((iAnd (((iAnd (v0 - (iAnd (iUshr v0 1) 1431655765)) 858993459) + (iAnd (iUshr (v0 - (iAnd (iUshr v0 1) 1431655765)) 2) 858993459)) + (iUshr ((iAnd (v0 - (iAnd (iUshr v0 1) 1431655765)) 858993459) + (iAnd (iUshr (v0 - (iAnd (iUshr v0 1) 1431655765)) 2) 858993459)) 4)) 252645135) + (iUshr (iAnd (((iAnd (v0 - (iAnd (iUshr v0 1) 1431655765)) 858993459) + (iAnd (iUshr (v0 - (iAnd (iUshr v0 1) 1431655765)) 2) 858993459)) + (iUshr ((iAnd (v0 - (iAnd (iUshr v0 1) 1431655765)) 858993459) + (iAnd (iUshr (v0 - (iAnd (iUshr v0 1) 1431655765)) 2) 858993459)) 4)) 252645135) 8)) + (iUshr ((iAnd (((iAnd (v0 - (iAnd (iUshr v0 1) 1431655765)) 858993459) + (iAnd (iUshr (v0 - (iAnd (iUshr v0 1) 1431655765)) 2) 858993459)) + (iUshr ((iAnd (v0 - (iAnd (iUshr v0 1) 1431655765)) 858993459) + (iAnd (iUshr (v0 - (iAnd (iUshr v0 1) 1431655765)) 2) 858993459)) 4)) 252645135) + (iUshr (iAnd (((iAnd (v0 - (iAnd (iUshr v0 1) 1431655765)) 858993459) + (iAnd (iUshr (v0 - (iAnd (iUshr v0 1) 1431655765)) 2) 858993459)) + (iUshr ((iAnd (v0 - (iAnd (iUshr v0 1) 1431655765)) 858993459) + (iAnd (iUshr (v0 - (iAnd (iUshr v0 1) 1431655765)) 2) 858993459)) 4)) 252645135) 8)) 16))]) (st' := [vI (((iAnd (((iAnd (v0 - (iAnd (iUshr v0 1) 1431655765)) 858993459) + (iAnd (iUshr (v0 - (iAnd (iUshr v0 1) 1431655765)) 2) 858993459)) + (iUshr ((iAnd (v0 - (iAnd (iUshr v0 1) 1431655765)) 858993459) + (iAnd (iUshr (v0 - (iAnd (iUshr v0 1) 1431655765)) 2) 858993459)) 4)) 252645135) + (iUshr (iAnd (((iAnd (v0 - (iAnd (iUshr v0 1) 1431655765)) 858993459) + (iAnd (iUshr (v0 - (iAnd (iUshr v0 1) 1431655765)) 2) 858993459)) + (iUshr ((iAnd (v0 - (iAnd (iUshr v0 1) 1431655765)) 858993459) + (iAnd (iUshr (v0 - (iAnd (iUshr v0 1) 1431655765)) 2) 858993459)) 4)) 252645135) 8)) + (iUshr ((iAnd (((iAnd (v0 - (iAnd (iUshr v0 1) 1431655765)) 858993459) + (iAnd (iUshr (v0 - (iAnd (iUshr v0 1) 1431655765)) 2) 858993459)) + (iUshr ((iAnd (v0 - (iAnd (iUshr v0 1) 1431655765)) 858993459) + (iAnd (iUshr (v0 - (iAnd (iUshr v0 1) 1431655765)) 2) 858993459)) 4)) 252645135) + (iUshr (iAnd (((iAnd (v0 - (iAnd (iUshr v0 1) 1431655765)) 858993459) + (iAnd (iUshr (v0 - (iAnd (iUshr v0 1) 1431655765)) 2) 858993459)) + (iUshr ((iAnd (v0 - (iAnd (iUshr v0 1) 1431655765)) 858993459) + (iAnd (iUshr (v0 - (iAnd (iUshr v0 1) 1431655765)) 2) 858993459)) 4)) 252645135) 8)) 16))]) (dg dc294 38 rfl) rfl rfl ?_
  refine ex_pu (ls' := [vI (((iAnd (((iAnd (v0 - (iAnd (iUshr v0 1) 1431655765)) 858993459) + (iAnd (iUshr (v0 - (iAnd (iUshr v0 1) 1431655765)) 2) 858993459)) + (iUshr ((iAnd (v0 - (iAnd (iUshr v0 1) 1431655765)) 858993459) + (iAnd (iUshr (v0 - (iAnd (iUshr v0 1) 1431655765)) 2) 858993459)) 4)) 252645135) + (iUshr (iAnd (((iAnd (v0 - (iAnd (iUshr v0 1) 1431655765)) 858993459) + (iAnd (iUshr (v0 - (iAnd (iUshr v0 1) 1431655765)) 2) 858993459)) + (iUshr ((iAnd (v0 - (iAnd (iUshr v0 1) 1431655765)) 858993459) + (iAnd (iUshr (v0 - (iAnd (iUshr v0 1) 1431655765)) 2) 858993459)) 4)) 252645135) 8)) + (iUshr ((iAnd (((iAnd (v0 - (iAnd (iUshr v0 1) 1431655765)) 858993459) + (iAnd (iUshr (v0 - (iAnd (iUshr v0 1) 1431655765)) 2) 858993459)) + (iUshr ((iAnd (v0 - (iAnd (iUshr v0 1) 1431655765)) 858993459) + (iAnd (iUshr (v0 - (iAnd (iUshr v0 1) 1431655765)) 2) 858993459)) 4)) 252645135) + (iUshr (iAnd (((iAnd (v0 - (iAnd (iUshr v0 1) 1431655765)) 858993459) + (iAnd (iUshr (v0 - (iAnd (iUshr v0 1) 1431655765)) 2) 858993459)) + (iUshr ((iAnd (v0 - (iAnd (iUshr v0 1) 1431655765)) 858993459) + (iAnd (iUshr (v0 - (iAnd (iUshr v0 1) 1431655765)) 2) 858993459)) 4)) 252645135) 8)) 16))]) (st' := [vI 63, vI (((iAnd (((iAnd (v0 - (iAnd (iUshr v0 1) 1431655765)) 858993459) + (iAnd (iUshr (v0 - (iAnd (iUshr v0 1) 1431655765)) 2) 858993459)) + (iUshr ((iAnd (v0 - (iAnd (iUshr v0 1) 1431655765)) 858993459) + (iAnd (iUshr (v0 - (iAnd (iUshr v0 1) 1431655765)) 2) 858993459)) 4)) 252645135) + (iUshr (iAnd (((iAnd (v0 - (iAnd (iUshr v0 1) 1431655765)) 858993459) + (iAnd (iUshr (v0 - (iAnd (iUshr v0 1) 1431655765)) 2) 858993459)) + (iUshr ((iAnd (v0 - (iAnd (iUshr v0 1) 1431655765)) 858993459) + (iAnd (iUshr (v0 - (iAnd (iUshr v0 1) 1431655765)) 2) 858993459)) 4)) 252645135) 8)) + (iUshr ((iAnd (((iAnd (v0 - (iAnd (iUshr v0 1) 1431655765)) 858993459) + (iAnd (iUshr (v0 - (iAnd (iUshr v0 1) 1431655765)) 2) 858993459)) + (iUshr ((iAnd (v0 - (iAnd (iUshr v0 1) 1431655765)) 858993459) + (iAnd (iUshr (v0 - (iAnd (iUshr v0 1) 1431655765)) 2) 858993459)) 4)) 252645135) + (iUshr (iAnd (((iAnd (v0 - (iAnd (iUshr v0 1) 1431655765)) 858993459) + (iAnd (iUshr (v0 - (iAnd (iUshr v0 1) 1431655765)) 2) 858993459)) + (iUshr ((iAnd (v0 - (iAnd (iUshr v0 1) 1431655765)) 858993459) + (iAnd (iUshr (v0 - (iAnd (iUshr v0 1) 1431655765)) 2) 858993459)) 4)) 252645135) 8)) 16))]) (dg dc294 39 rfl) rfl rfl ?_
  refine ex_pu (ls' := [vI (((iAnd (((iAnd (v0 - (iAnd (iUshr v0 1) 1431655765)) 858993459) + (iAnd (iUshr (v0 - (iAnd (iUshr v0 1) 1431655765)) 2) 858993459)) + (iUshr ((iAnd (v0 - (iAnd (iUshr v0 1) 1431655765)) 858993459) + (iAnd (iUshr (v0 - (iAnd (iUshr v0 1) 1431655765)) 2) 858993459)) 4)) 252645135) + (iUshr (iAnd (((iAnd (v0 - (iAnd (iUshr v0 1) 1431655765)) 858993459) + (iAnd (iUshr (v0 - (iAnd (iUshr v0 1) 1431655765)) 2) 858993459)) + (iUshr ((iAnd (v0 - (iAnd (iUshr v0 1) 1431655765)) 858993459) + (iAnd (iUshr (v0 - (iAnd (iUshr v0 1) 1431655765)) 2) 858993459)) 4)) 252645135) 8)) + (iUshr ((iAnd (((iAnd (v0 - (iAnd (iUshr v0 1) 1431655765)) 858993459) + (iAnd (iUshr (v0 - (iAnd (iUshr v0 1) 1431655765)) 2) 858993459)) + (iUshr ((iAnd (v0 - (iAnd (iUshr v0 1) 1431655765)) 858993459) + (iAnd (iUshr (v0 - (iAnd (iUshr v0 1) 1431655765)) 2) 858993459)) 4)) 252645135) + (iUshr (iAnd (((iAnd (v0 - (iAnd (iUshr v0 1) 1431655765)) 858993459) + (iAnd (iUshr (v0 - (iAnd (iUshr v0 1) 1431655765)) 2) 858993459)) + (iUshr ((iAnd (v0 - (iAnd (iUshr v0 1) 1431655765)) 858993459) + (iAnd (iUshr (v0 - (iAnd (iUshr v0 1) 1431655765)) 2) 858993459)) 4)) 252645135) 8)) 16))]) (st' := [vI (iAnd (((iAnd (((iAnd (v0 - (iAnd (iUshr v0 1) 1431655765)) 858993459) + (iAnd (iUshr (v0 - (iAnd (iUshr v0 1) 1431655765)) 2) 858993459)) + (iUshr ((iAnd (v0 - (iAnd (iUshr v0 1) 1431655765)) 858993459) + (iAnd (iUshr (v0 - (iAnd (iUshr v0 1) 1431655765)) 2) 858993459)) 4)) 252645135) + (iUshr (iAnd (((iAnd (v0 - (iAnd (iUshr v0 1) 1431655765)) 858993459) + (iAnd (iUshr (v0 - (iAnd (iUshr v0 1) 1431655765)) 2) 858993459)) + (iUshr ((iAnd (v0 - (iAnd (iUshr v0 1) 1431655765)) 858993459) + (iAnd (iUshr (v0 - (iAnd (iUshr v0 1) 1431655765)) 2) 858993459)) 4)) 252645135) 8)) + (iUshr ((iAnd (((iAnd (v0 - (iAnd (iUshr v0 1) 1431655765)) 858993459) + (iAnd (iUshr (v0 - (iAnd (iUshr v0 1) 1431655765)) 2) 858993459)) + (iUshr ((iAnd (v0 - (iAnd (iUshr v0 1) 1431655765)) 858993459) + (iAnd (iUshr (v0 - (iAnd (iUshr v0 1) 1431655765)) 2) 858993459)) 4)) 252645135) + (iUshr (iAnd (((iAnd (v0 - (iAnd (iUshr v0 1) 1431655765)) 858993459) + (iAnd (iUshr (v0 - (iAnd (iUshr v0 1) 1431655765)) 2) 858993459)) + (iUshr ((iAnd (v0 - (iAnd (iUshr v0 1) 1431655765)) 858993459) + (iAnd (iUshr (v0 - (iAnd (iUshr v0 1) 1431655765)) 2) 858993459)) 4)) 252645135) 8)) 16)) 63)]) (dg dc294 40 rfl) rfl rfl ?_
  exact ex_ire (dg dc294 41 rfl) rfl hf
-- GlassHillLaw.shirts
def il329 : List (Nat × Instr × Nat) := [(0, .aload 6, 2), (2, .iconst 0, 1), (3, .aload_n 0, 1), (4, .iload_n 1, 1), (5, .iload_n 2, 1), (6, .lload_n 3, 1), (7, .iload 5, 2), (9, .invokevirtual 104, 3), (12, .i2l, 1), (13, .lastore, 1), (14, .goto 7, 3), (17, .astore 7, 2), (19, .iconst 1, 1), (20, .ireturn, 1), (21, .iconst 0, 1), (22, .ireturn, 1)]
theorem dc329 : dcs (mC 329) il329 := dc_of (by decide +kernel)
def drv_shirts (v1 : Int) (v2 : Int) (v3 : Int) (v5 : Int) (M : MM) : OR :=
  (bH (gh_shirts v1 v2 v3 v5 M) (fun z_3 M_2 => (bif inB 0 1 then (sM (mU M_2 181 0 (w32 z_3)) fun M_4 => some (rI 0, M_4)) else none)) fun c_6 M_2 => (bif Nat.beq c_6 13 then some (rI 1, M_2) else none))
set_option maxRecDepth 4000 in
theorem drv_shirts_ok {Z : Nat × (Nat → Int)} {d : Nat} (hd : 3 ≤ d) {M : MM}  {v1 v2 v3 v5 : Int} {res : AR × MM} (hf : drv_shirts v1 v2 v3 v5 M = some res) : EX Z d 329 0 (ent 329 [vR 0, vI v1, vI v2, vJ v3, vI v5, vR 181]) [] M res := by
  obtain ⟨e9, rfl⟩ : ∃ e9, d = e9 + 1 := ⟨d - 1, by omega⟩
  unfold drv_shirts at hf
  show EX Z _ 329 0 [vR 0, vI v1, vI v2, vJ v3, vU, vI v5, vR 181, vU] [] M res
  refine ex_pu (ls' := [vR 0, vI v1, vI v2, vJ v3, vU, vI v5, vR 181, vU]) (st' := [vR 181]) (dg dc329 0 rfl) rfl rfl ?_
  refine ex_pu (ls' := [vR 0, vI v1, vI v2, vJ v3, vU, vI v5, vR 181, vU]) (st' := [vI 0, vR 181]) (dg dc329 1 rfl) rfl rfl ?_
  refine ex_pu (ls' := [vR 0, vI v1, vI v2, vJ v3, vU, vI v5, vR 181, vU]) (st' := [vR 0, vI 0, vR 181]) (dg dc329 2 rfl) rfl rfl ?_
  refine ex_pu (ls' := [vR 0, vI v1, vI v2, vJ v3, vU, vI v5, vR 181, vU]) (st' := [vI v1, vR 0, vI 0, vR 181]) (dg dc329 3 rfl) rfl rfl ?_
  refine ex_pu (ls' := [vR 0, vI v1, vI v2, vJ v3, vU, vI v5, vR 181, vU]) (st' := [vI v2, vI v1, vR 0, vI 0, vR 181]) (dg dc329 4 rfl) rfl rfl ?_
  refine ex_pu (ls' := [vR 0, vI v1, vI v2, vJ v3, vU, vI v5, vR 181, vU]) (st' := [vJ v3, vI v2, vI v1, vR 0, vI 0, vR 181]) (dg dc329 5 rfl) rfl rfl ?_
  refine ex_pu (ls' := [vR 0, vI v1, vI v2, vJ v3, vU, vI v5, vR 181, vU]) (st' := [vI v5, vJ v3, vI v2, vI v1, vR 0, vI 0, vR 181]) (dg dc329 6 rfl) rfl rfl ?_
  refine ex_cH (vs := [vR 0, vI v1, vI v2, vJ v3, vI v5]) (st' := [vI 0, vR 181]) (F := (gh_shirts v1 v2 v3 v5 M)) (Or.inr (Or.inl ⟨rfl, (dg dc329 7 rfl)⟩)) rfl rfl (rk1 (LOC.st (Nat.le_of_ble_eq_true rfl) rfl) rfl) (fun _ r9 => gh_shirts_ok (Z := Z) (d := e9) (by omega)  r9) hf (fun z_3 M_2 he_1 hf => ?_) (fun c_6 M_2 he_1 hf => ?_)
  · refine ex_pu (ls' := [vR 0, vI v1, vI v2, vJ v3, vU, vI v5, vR 181, vU]) (st' := [vJ (w32 z_3), vI 0, vR 181]) (dg dc329 8 rfl) rfl rfl ?_
    refine ex_last (dg dc329 9 rfl) (LOC.st (Nat.le_of_ble_eq_true rfl) rfl) rfl rfl hf (fun _ hf => ?_)
    refine ex_gen hf (fun M_4 hM_5 hf => ?_)
    refine ex_goto (t := 21) (dg dc329 10 rfl) rfl rfl ?_
    refine ex_pu (ls' := [vR 0, vI v1, vI v2, vJ v3, vU, vI v5, vR 181, vU]) (st' := [vI 0]) (dg dc329 14 rfl) rfl rfl ?_
    exact ex_ire (dg dc329 15 rfl) rfl hf
  · refine ex_bif hf (fun hb hf => ?_) (fun _ hf => ?_)
    · obtain rfl := bq hb
      refine ex_hnd (vs := [vR 0, vI v1, vI v2, vJ v3, vI v5]) (st' := [vI 0, vR 181]) (ci := 13) (g := 17) (k0 := 7) (g2 := 19) (Or.inr (Or.inl ⟨rfl, (dg dc329 7 rfl)⟩)) rfl rfl (fun _ hR => RK.calO hR rfl (rk1 (LOC.st (Nat.le_of_ble_eq_true rfl) rfl) rfl)) ⟨by decide, by decide⟩ (by decide +kernel) (Or.inr ⟨(dg dc329 11 rfl), rfl⟩) (blt_ok rfl) (gh_shirts_ok (Z := Z) (d := e9) (by omega)  he_1) ?_
      show EX Z _ 329 19 [vR 0, vI v1, vI v2, vJ v3, vU, vI v5, vR 181, vU] [] M_2 res
      refine ex_pu (ls' := [vR 0, vI v1, vI v2, vJ v3, vU, vI v5, vR 181, vU]) (st' := [vI 1]) (dg dc329 12 rfl) rfl rfl ?_
      exact ex_ire (dg dc329 13 rfl) rfl hf
    · cases hf
-- GlassHillLaw.log
def il331 : List (Nat × Instr × Nat) := [(0, .aload_n 3, 1), (1, .iconst 0, 1), (2, .aload_n 0, 1), (3, .iload_n 1, 1), (4, .iload_n 2, 1), (5, .invokevirtual 111, 3), (8, .i2l, 1), (9, .lastore, 1), (10, .goto 7, 3), (13, .astore 4, 2), (15, .iconst 1, 1), (16, .ireturn, 1), (17, .iconst 0, 1), (18, .ireturn, 1)]
theorem dc331 : dcs (mC 331) il331 := dc_of (by decide +kernel)
def drv_log (v1 : Int) (v2 : Int) (M : MM) : OR :=
  (bH (gh_log v1 v2 M) (fun z_3 M_2 => (bif inB 0 1 then (sM (mU M_2 181 0 (w32 z_3)) fun M_4 => some (rI 0, M_4)) else none)) fun c_6 M_2 => (bif Nat.beq c_6 16 then some (rI 1, M_2) else none))
set_option maxRecDepth 4000 in
theorem drv_log_ok {Z : Nat × (Nat → Int)} {d : Nat} (hd : 1 ≤ d) {M : MM}  {v1 v2 : Int} {res : AR × MM} (hf : drv_log v1 v2 M = some res) : EX Z d 331 0 (ent 331 [vR 0, vI v1, vI v2, vR 181]) [] M res := by
  obtain ⟨e9, rfl⟩ : ∃ e9, d = e9 + 1 := ⟨d - 1, by omega⟩
  unfold drv_log at hf
  show EX Z _ 331 0 [vR 0, vI v1, vI v2, vR 181, vU] [] M res
  refine ex_pu (ls' := [vR 0, vI v1, vI v2, vR 181, vU]) (st' := [vR 181]) (dg dc331 0 rfl) rfl rfl ?_
  refine ex_pu (ls' := [vR 0, vI v1, vI v2, vR 181, vU]) (st' := [vI 0, vR 181]) (dg dc331 1 rfl) rfl rfl ?_
  refine ex_pu (ls' := [vR 0, vI v1, vI v2, vR 181, vU]) (st' := [vR 0, vI 0, vR 181]) (dg dc331 2 rfl) rfl rfl ?_
  refine ex_pu (ls' := [vR 0, vI v1, vI v2, vR 181, vU]) (st' := [vI v1, vR 0, vI 0, vR 181]) (dg dc331 3 rfl) rfl rfl ?_
  refine ex_pu (ls' := [vR 0, vI v1, vI v2, vR 181, vU]) (st' := [vI v2, vI v1, vR 0, vI 0, vR 181]) (dg dc331 4 rfl) rfl rfl ?_
  refine ex_cH (vs := [vR 0, vI v1, vI v2]) (st' := [vI 0, vR 181]) (F := (gh_log v1 v2 M)) (Or.inr (Or.inl ⟨rfl, (dg dc331 5 rfl)⟩)) rfl rfl (rk1 (LOC.st (Nat.le_of_ble_eq_true rfl) rfl) rfl) (fun _ r9 => gh_log_ok (Z := Z) (d := e9) (by omega)  r9) hf (fun z_3 M_2 he_1 hf => ?_) (fun c_6 M_2 he_1 hf => ?_)
  · refine ex_pu (ls' := [vR 0, vI v1, vI v2, vR 181, vU]) (st' := [vJ (w32 z_3), vI 0, vR 181]) (dg dc331 6 rfl) rfl rfl ?_
    refine ex_last (dg dc331 7 rfl) (LOC.st (Nat.le_of_ble_eq_true rfl) rfl) rfl rfl hf (fun _ hf => ?_)
    refine ex_gen hf (fun M_4 hM_5 hf => ?_)
    refine ex_goto (t := 17) (dg dc331 8 rfl) rfl rfl ?_
    refine ex_pu (ls' := [vR 0, vI v1, vI v2, vR 181, vU]) (st' := [vI 0]) (dg dc331 12 rfl) rfl rfl ?_
    exact ex_ire (dg dc331 13 rfl) rfl hf
  · refine ex_bif hf (fun hb hf => ?_) (fun _ hf => ?_)
    · obtain rfl := bq hb
      refine ex_hnd (vs := [vR 0, vI v1, vI v2]) (st' := [vI 0, vR 181]) (ci := 16) (g := 13) (k0 := 4) (g2 := 15) (Or.inr (Or.inl ⟨rfl, (dg dc331 5 rfl)⟩)) rfl rfl (fun _ hR => RK.calO hR rfl (rk1 (LOC.st (Nat.le_of_ble_eq_true rfl) rfl) rfl)) ⟨by decide, by decide⟩ (by decide +kernel) (Or.inr ⟨(dg dc331 9 rfl), rfl⟩) (blt_ok rfl) (gh_log_ok (Z := Z) (d := e9) (by omega)  he_1) ?_
      show EX Z _ 331 15 [vR 0, vI v1, vI v2, vR 181, vU] [] M_2 res
      refine ex_pu (ls' := [vR 0, vI v1, vI v2, vR 181, vU]) (st' := [vI 1]) (dg dc331 10 rfl) rfl rfl ?_
      exact ex_ire (dg dc331 11 rfl) rfl hf
    · cases hf
-- GlassHill$Journey.lot
def il2 : List (Nat × Instr × Nat) := [(0, .aload_n 0, 1), (1, .getfield 24, 3), (4, .iload_n 1, 1), (5, .invokestatic 67, 3), (8, .iconst 1, 1), (9, .if_icmp .ne 5, 3), (12, .iconst 3, 1), (13, .ireturn, 1), (14, .aload_n 0, 1), (15, .getfield 21, 3), (18, .iload_n 1, 1), (19, .invokestatic 67, 3), (22, .iconst 1, 1), (23, .if_icmp .ne 5, 3), (26, .iconst 2, 1), (27, .ireturn, 1), (28, .aload_n 0, 1), (29, .getfield 27, 3), (32, .iload_n 1, 1), (33, .invokestatic 67, 3), (36, .iconst 1, 1), (37, .if_icmp .ne 7, 3), (40, .iconst 1, 1), (41, .goto 4, 3), (44, .iconst 0, 1), (45, .ireturn, 1)]
theorem dc2 : dcs (mC 2) il2 := dc_of (by decide +kernel)
def jny_lot (a : Nat) (v1 : Int) (M : MM) : OR :=
  (bI (gh_bit (M a 4) v1 M) fun z_3 M_2 => (bif cmpB .ne z_3 1 then (bI (gh_bit (M_2 a 3) v1 M_2) fun z_6 M_5 => (bif cmpB .ne z_6 1 then (bI (gh_bit (M_5 a 5) v1 M_5) fun z_9 M_8 => (bif cmpB .ne z_9 1 then some (rI 0, M_8) else some (rI 1, M_8))) else some (rI 2, M_5))) else some (rI 3, M_2)))
set_option maxRecDepth 4000 in
theorem jny_lot_ok {Z : Nat × (Nat → Int)} {d : Nat} (hd : 1 ≤ d) {M : MM} {a : Nat} (ha : isJny a) {v1 : Int} {res : AR × MM} (hf : jny_lot a v1 M = some res) : EX Z d 2 0 (ent 2 [vR a, vI v1]) [] M res := by
  obtain ⟨e9, rfl⟩ : ∃ e9, d = e9 + 1 := ⟨d - 1, by omega⟩
  unfold jny_lot at hf
  show EX Z _ 2 0 [vR a, vI v1] [] M res
  refine ex_pu (ls' := [vR a, vI v1]) (st' := [vR a]) (dg dc2 0 rfl) rfl rfl ?_
  refine ex_getI (dg dc2 1 rfl) rfl (locJny0 ha) rfl ?_
  refine ex_pu (ls' := [vR a, vI v1]) (st' := [vI v1, vI (M a 4)]) (dg dc2 2 rfl) rfl rfl ?_
  refine ex_cI (vs := [vI (M a 4), vI v1]) (st' := []) (F := (gh_bit (M a 4) v1 M)) (Or.inl ⟨rfl, (dg dc2 3 rfl)⟩) rfl rfl (Or.inl rfl) rfl (fun _ r9 => gh_bit_ok (Z := Z) (d := e9) (by omega)  r9) hf (fun z_3 M_2 he_1 hf => ?_)
  refine ex_pu (ls' := [vR a, vI v1]) (st' := [vI 1, vI z_3]) (dg dc2 4 rfl) rfl rfl ?_
  refine ex_icmp (t := 14) (dg dc2 5 rfl) rfl hf (fun _ hf => ?_) (fun _ hf => ?_)
  · refine ex_pu (ls' := [vR a, vI v1]) (st' := [vR a]) (dg dc2 8 rfl) rfl rfl ?_
    refine ex_getI (dg dc2 9 rfl) rfl (locJny0 ha) rfl ?_
    refine ex_pu (ls' := [vR a, vI v1]) (st' := [vI v1, vI (M_2 a 3)]) (dg dc2 10 rfl) rfl rfl ?_
    refine ex_cI (vs := [vI (M_2 a 3), vI v1]) (st' := []) (F := (gh_bit (M_2 a 3) v1 M_2)) (Or.inl ⟨rfl, (dg dc2 11 rfl)⟩) rfl rfl (Or.inl rfl) rfl (fun _ r9 => gh_bit_ok (Z := Z) (d := e9) (by omega)  r9) hf (fun z_6 M_5 he_4 hf => ?_)
    refine ex_pu (ls' := [vR a, vI v1]) (st' := [vI 1, vI z_6]) (dg dc2 12 rfl) rfl rfl ?_
    refine ex_icmp (t := 28) (dg dc2 13 rfl) rfl hf (fun _ hf => ?_) (fun _ hf => ?_)
    · refine ex_pu (ls' := [vR a, vI v1]) (st' := [vR a]) (dg dc2 16 rfl) rfl rfl ?_
      refine ex_getI (dg dc2 17 rfl) rfl (locJny0 ha) rfl ?_
      refine ex_pu (ls' := [vR a, vI v1]) (st' := [vI v1, vI (M_5 a 5)]) (dg dc2 18 rfl) rfl rfl ?_
      refine ex_cI (vs := [vI (M_5 a 5), vI v1]) (st' := []) (F := (gh_bit (M_5 a 5) v1 M_5)) (Or.inl ⟨rfl, (dg dc2 19 rfl)⟩) rfl rfl (Or.inl rfl) rfl (fun _ r9 => gh_bit_ok (Z := Z) (d := e9) (by omega)  r9) hf (fun z_9 M_8 he_7 hf => ?_)
      refine ex_pu (ls' := [vR a, vI v1]) (st' := [vI 1, vI z_9]) (dg dc2 20 rfl) rfl rfl ?_
      refine ex_icmp (t := 44) (dg dc2 21 rfl) rfl hf (fun _ hf => ?_) (fun _ hf => ?_)
      · refine ex_pu (ls' := [vR a, vI v1]) (st' := [vI 0]) (dg dc2 24 rfl) rfl rfl ?_
        exact ex_ire (dg dc2 25 rfl) rfl hf
      · refine ex_pu (ls' := [vR a, vI v1]) (st' := [vI 1]) (dg dc2 22 rfl) rfl rfl ?_
        refine ex_goto (t := 45) (dg dc2 23 rfl) rfl rfl ?_
        exact ex_ire (dg dc2 25 rfl) rfl hf
    · refine ex_pu (ls' := [vR a, vI v1]) (st' := [vI 2]) (dg dc2 14 rfl) rfl rfl ?_
      exact ex_ire (dg dc2 15 rfl) rfl hf
  · refine ex_pu (ls' := [vR a, vI v1]) (st' := [vI 3]) (dg dc2 6 rfl) rfl rfl ?_
    exact ex_ire (dg dc2 7 rfl) rfl hf
-- GlassHill$Journey.lying
def il3 : List (Nat × Instr × Nat) := [(0, .iconst 0, 1), (1, .istore_n 2, 1), (2, .iconst 0, 1), (3, .istore_n 3, 1), (4, .iload_n 3, 1), (5, .bipush 10, 2), (7, .if_icmp .ge 33, 3), (10, .aload_n 0, 1), (11, .getfield 39, 3), (14, .iload_n 3, 1), (15, .iaload, 1), (16, .iload_n 1, 1), (17, .if_icmp .ne 17, 3), (20, .aload_n 0, 1), (21, .iload_n 3, 1), (22, .invokevirtual 71, 3), (25, .ifCond .ne 9, 3), (28, .iload_n 2, 1), (29, .iconst 1, 1), (30, .iload_n 3, 1), (31, .ishl, 1), (32, .ior, 1), (33, .istore_n 2, 1), (34, .iinc 3 1, 3), (37, .goto (-33), 3), (40, .iload_n 2, 1), (41, .ireturn, 1)]
theorem dc3 : dcs (mC 3) il3 := dc_of (by decide +kernel)
def jny_lying_L4 (a : Nat) (v1 : Int) (K1 : Int → MM → OR) : Nat → Int → Int → MM → OR
  | 0, _, _, _ => none
  | n + 1, v2, v3, M => (bif cmpB .ge v3 10 then (K1 v2 M) else (bif inB v3 10 then (bif cmpB .ne (M (a + 1) (v3).toNat) v1 then (jny_lying_L4 a v1 K1 n v2 (v3 + 1) M) else (bI (jny_lot a v3 M) fun z_3 M_2 => (bif cmpB .ne z_3 0 then (jny_lying_L4 a v1 K1 n v2 (v3 + 1) M_2) else (jny_lying_L4 a v1 K1 n (iOr v2 (iShl 1 v3)) (v3 + 1) M_2)))) else none))
set_option maxRecDepth 4000 in
theorem jny_lying_L4_ok {Z : Nat × (Nat → Int)} {d : Nat} (hd : 2 ≤ d) {a : Nat} (ha : isJny a) {v1 : Int} {K1 : Int → MM → OR} {res : AR × MM} (k1 : ∀ (x2 : Int) (M : MM) (j0 j1 j3 : AV), K1 x2 M = some res → EX Z d 3 40 [j0, j1, vI x2, j3] [] M res) : ∀ (n : Nat) (v2 v3 : Int) (M : MM), jny_lying_L4 a v1 K1 n v2 v3 M = some res → EX Z d 3 4 [vR a, vI v1, vI v2, vI v3] [] M res := by
  obtain ⟨e9, rfl⟩ : ∃ e9, d = e9 + 1 := ⟨d - 1, by omega⟩
  intro n
  induction n with
  | zero =>
    intro v2 v3 M hf
    unfold jny_lying_L4 at hf
    cases hf
  | succ n ih =>
    intro v2 v3 M hf
    unfold jny_lying_L4 at hf
    refine ex_pu (ls' := [vR a, vI v1, vI v2, vI v3]) (st' := [vI v3]) (dg dc3 4 rfl) rfl rfl ?_
    refine ex_pu (ls' := [vR a, vI v1, vI v2, vI v3]) (st' := [vI 10, vI v3]) (dg dc3 5 rfl) rfl rfl ?_
    refine ex_icmp (t := 40) (dg dc3 6 rfl) rfl hf (fun _ hf => ?_) (fun _ hf => ?_)
    · exact k1 v2 M _ _ _ hf
    · refine ex_pu (ls' := [vR a, vI v1, vI v2, vI v3]) (st' := [vR a]) (dg dc3 7 rfl) rfl rfl ?_
      refine ex_getO (dg dc3 8 rfl) rfl (locJny0 ha) rfl ?_
      show EX Z _ 3 _ [vR a, vI v1, vI v2, vI v3] [vR (a + 1)] _ _
      refine ex_pu (ls' := [vR a, vI v1, vI v2, vI v3]) (st' := [vI v3, vR (a + 1)]) (dg dc3 9 rfl) rfl rfl ?_
      refine ex_iald (dg dc3 10 rfl) (locJny1 ha) rfl hf (fun _ hf => ?_)
      refine ex_pu (ls' := [vR a, vI v1, vI v2, vI v3]) (st' := [vI v1, vI (M (a + 1) (v3).toNat)]) (dg dc3 11 rfl) rfl rfl ?_
      refine ex_icmp (t := 34) (dg dc3 12 rfl) rfl hf (fun _ hf => ?_) (fun _ hf => ?_)
      · refine ex_pu (ls' := [vR a, vI v1, vI v2, vI (v3 + 1)]) (st' := []) (dg dc3 23 rfl) rfl rfl ?_
        refine ex_goto (t := 4) (dg dc3 24 rfl) rfl rfl ?_
        exact ih v2 (v3 + 1) M hf
      · refine ex_pu (ls' := [vR a, vI v1, vI v2, vI v3]) (st' := [vR a]) (dg dc3 13 rfl) rfl rfl ?_
        refine ex_pu (ls' := [vR a, vI v1, vI v2, vI v3]) (st' := [vI v3, vR a]) (dg dc3 14 rfl) rfl rfl ?_
        refine ex_cI (vs := [vR a, vI v3]) (st' := []) (F := (jny_lot a v3 M)) (Or.inr (Or.inl ⟨rfl, (dg dc3 15 rfl)⟩)) rfl rfl (rk1 (locJny0 ha) rfl) rfl (fun _ r9 => jny_lot_ok (Z := Z) (d := e9) (by omega) ha  r9) hf (fun z_3 M_2 he_1 hf => ?_)
        refine ex_if (t := 34) (dg dc3 16 rfl) rfl hf (fun _ hf => ?_) (fun _ hf => ?_)
        · refine ex_pu (ls' := [vR a, vI v1, vI v2, vI (v3 + 1)]) (st' := []) (dg dc3 23 rfl) rfl rfl ?_
          refine ex_goto (t := 4) (dg dc3 24 rfl) rfl rfl ?_
          exact ih v2 (v3 + 1) M_2 hf
        · refine ex_pu (ls' := [vR a, vI v1, vI v2, vI v3]) (st' := [vI v2]) (dg dc3 17 rfl) rfl rfl ?_
          refine ex_pu (ls' := [vR a, vI v1, vI v2, vI v3]) (st' := [vI 1, vI v2]) (dg dc3 18 rfl) rfl rfl ?_
          refine ex_pu (ls' := [vR a, vI v1, vI v2, vI v3]) (st' := [vI v3, vI 1, vI v2]) (dg dc3 19 rfl) rfl rfl ?_
          refine ex_pu (ls' := [vR a, vI v1, vI v2, vI v3]) (st' := [vI (iShl 1 v3), vI v2]) (dg dc3 20 rfl) rfl rfl ?_
          refine ex_pu (ls' := [vR a, vI v1, vI v2, vI v3]) (st' := [vI (iOr v2 (iShl 1 v3))]) (dg dc3 21 rfl) rfl rfl ?_
          refine ex_pu (ls' := [vR a, vI v1, vI (iOr v2 (iShl 1 v3)), vI v3]) (st' := []) (dg dc3 22 rfl) rfl rfl ?_
          refine ex_pu (ls' := [vR a, vI v1, vI (iOr v2 (iShl 1 v3)), vI (v3 + 1)]) (st' := []) (dg dc3 23 rfl) rfl rfl ?_
          refine ex_goto (t := 4) (dg dc3 24 rfl) rfl rfl ?_
          exact ih (iOr v2 (iShl 1 v3)) (v3 + 1) M_2 hf
def jny_lying (a : Nat) (v1 : Int) (M : MM) : OR :=
  (jny_lying_L4 a v1 (fun v2_4 M_5 => some (rI v2_4, M_5)) FU 0 0 M)
set_option maxRecDepth 4000 in
theorem jny_lying_ok {Z : Nat × (Nat → Int)} {d : Nat} (hd : 2 ≤ d) {M : MM} {a : Nat} (ha : isJny a) {v1 : Int} {res : AR × MM} (hf : jny_lying a v1 M = some res) : EX Z d 3 0 (ent 3 [vR a, vI v1]) [] M res := by
  obtain ⟨e9, rfl⟩ : ∃ e9, d = e9 + 1 := ⟨d - 1, by omega⟩
  unfold jny_lying at hf
  show EX Z _ 3 0 [vR a, vI v1, vU, vU] [] M res
  refine ex_pu (ls' := [vR a, vI v1, vU, vU]) (st' := [vI 0]) (dg dc3 0 rfl) rfl rfl ?_
  refine ex_pu (ls' := [vR a, vI v1, vI 0, vU]) (st' := []) (dg dc3 1 rfl) rfl rfl ?_
  refine ex_pu (ls' := [vR a, vI v1, vI 0, vU]) (st' := [vI 0]) (dg dc3 2 rfl) rfl rfl ?_
  refine ex_pu (ls' := [vR a, vI v1, vI 0, vI 0]) (st' := []) (dg dc3 3 rfl) rfl rfl ?_
  refine jny_lying_L4_ok hd ha ?_ FU 0 0 M hf
  · intro v2_4 M_5 j0_6 j1_7 j3_8 hf
    refine ex_pu (ls' := [j0_6, j1_7, vI v2_4, j3_8]) (st' := [vI v2_4]) (dg dc3 25 rfl) rfl rfl ?_
    exact ex_ire (dg dc3 26 rfl) rfl hf
-- GlassHill$Land.hasKeeper
def il12 : List (Nat × Instr × Nat) := [(0, .aload_n 0, 1), (1, .getfield 27, 3), (4, .iload_n 1, 1), (5, .invokestatic 89, 3), (8, .iconst 1, 1), (9, .if_icmp .ne 7, 3), (12, .iconst 1, 1), (13, .goto 4, 3), (16, .iconst 0, 1), (17, .ireturn, 1)]
theorem dc12 : dcs (mC 12) il12 := dc_of (by decide +kernel)
def land_hasKeeper (a : Nat) (v1 : Int) (M : MM) : OR :=
  (bI (gh_bit (M a 5) v1 M) fun z_3 M_2 => (bif cmpB .ne z_3 1 then some (rI 0, M_2) else some (rI 1, M_2)))
set_option maxRecDepth 4000 in
theorem land_hasKeeper_ok {Z : Nat × (Nat → Int)} {d : Nat} (hd : 1 ≤ d) {M : MM} {a : Nat} (ha : isLand a) {v1 : Int} {res : AR × MM} (hf : land_hasKeeper a v1 M = some res) : EX Z d 12 0 (ent 12 [vR a, vI v1]) [] M res := by
  obtain ⟨e9, rfl⟩ : ∃ e9, d = e9 + 1 := ⟨d - 1, by omega⟩
  unfold land_hasKeeper at hf
  show EX Z _ 12 0 [vR a, vI v1] [] M res
  refine ex_pu (ls' := [vR a, vI v1]) (st' := [vR a]) (dg dc12 0 rfl) rfl rfl ?_
  refine ex_getI (dg dc12 1 rfl) rfl (locLand0 ha) rfl ?_
  refine ex_pu (ls' := [vR a, vI v1]) (st' := [vI v1, vI (M a 5)]) (dg dc12 2 rfl) rfl rfl ?_
  refine ex_cI (vs := [vI (M a 5), vI v1]) (st' := []) (F := (gh_bit (M a 5) v1 M)) (Or.inl ⟨rfl, (dg dc12 3 rfl)⟩) rfl rfl (Or.inl rfl) rfl (fun _ r9 => gh_bit_ok (Z := Z) (d := e9) (by omega)  r9) hf (fun z_3 M_2 he_1 hf => ?_)
  refine ex_pu (ls' := [vR a, vI v1]) (st' := [vI 1, vI z_3]) (dg dc12 4 rfl) rfl rfl ?_
  refine ex_icmp (t := 16) (dg dc12 5 rfl) rfl hf (fun _ hf => ?_) (fun _ hf => ?_)
  · refine ex_pu (ls' := [vR a, vI v1]) (st' := [vI 0]) (dg dc12 8 rfl) rfl rfl ?_
    exact ex_ire (dg dc12 9 rfl) rfl hf
  · refine ex_pu (ls' := [vR a, vI v1]) (st' := [vI 1]) (dg dc12 6 rfl) rfl rfl ?_
    refine ex_goto (t := 17) (dg dc12 7 rfl) rfl rfl ?_
    exact ex_ire (dg dc12 9 rfl) rfl hf
-- GlassHill$Land.isHeldBy
def il13 : List (Nat × Instr × Nat) := [(0, .aload_n 0, 1), (1, .getfield 27, 3), (4, .iload_n 2, 1), (5, .iconst (-1), 1), (6, .ixor, 1), (7, .iand, 1), (8, .iload_n 1, 1), (9, .invokestatic 89, 3), (12, .iconst 1, 1), (13, .if_icmp .ne 7, 3), (16, .iconst 1, 1), (17, .goto 4, 3), (20, .iconst 0, 1), (21, .ireturn, 1)]
theorem dc13 : dcs (mC 13) il13 := dc_of (by decide +kernel)
def land_isHeldBy (a : Nat) (v1 : Int) (v2 : Int) (M : MM) : OR :=
  (bI (gh_bit (iAnd (M a 5) (iXor v2 (-1))) v1 M) fun z_3 M_2 => (bif cmpB .ne z_3 1 then some (rI 0, M_2) else some (rI 1, M_2)))
set_option maxRecDepth 4000 in
theorem land_isHeldBy_ok {Z : Nat × (Nat → Int)} {d : Nat} (hd : 1 ≤ d) {M : MM} {a : Nat} (ha : isLand a) {v1 v2 : Int} {res : AR × MM} (hf : land_isHeldBy a v1 v2 M = some res) : EX Z d 13 0 (ent 13 [vR a, vI v1, vI v2]) [] M res := by
  obtain ⟨e9, rfl⟩ : ∃ e9, d = e9 + 1 := ⟨d - 1, by omega⟩
  unfold land_isHeldBy at hf
  show EX Z _ 13 0 [vR a, vI v1, vI v2] [] M res
  refine ex_pu (ls' := [vR a, vI v1, vI v2]) (st' := [vR a]) (dg dc13 0 rfl) rfl rfl ?_
  refine ex_getI (dg dc13 1 rfl) rfl (locLand0 ha) rfl ?_
  refine ex_pu (ls' := [vR a, vI v1, vI v2]) (st' := [vI v2, vI (M a 5)]) (dg dc13 2 rfl) rfl rfl ?_
  refine ex_pu (ls' := [vR a, vI v1, vI v2]) (st' := [vI (-1), vI v2, vI (M a 5)]) (dg dc13 3 rfl) rfl rfl ?_
  refine ex_pu (ls' := [vR a, vI v1, vI v2]) (st' := [vI (iXor v2 (-1)), vI (M a 5)]) (dg dc13 4 rfl) rfl rfl ?_
  refine ex_pu (ls' := [vR a, vI v1, vI v2]) (st' := [vI (iAnd (M a 5) (iXor v2 (-1)))]) (dg dc13 5 rfl) rfl rfl ?_
  refine ex_pu (ls' := [vR a, vI v1, vI v2]) (st' := [vI v1, vI (iAnd (M a 5) (iXor v2 (-1)))]) (dg dc13 6 rfl) rfl rfl ?_
  refine ex_cI (vs := [vI (iAnd (M a 5) (iXor v2 (-1))), vI v1]) (st' := []) (F := (gh_bit (iAnd (M a 5) (iXor v2 (-1))) v1 M)) (Or.inl ⟨rfl, (dg dc13 7 rfl)⟩) rfl rfl (Or.inl rfl) rfl (fun _ r9 => gh_bit_ok (Z := Z) (d := e9) (by omega)  r9) hf (fun z_3 M_2 he_1 hf => ?_)
  refine ex_pu (ls' := [vR a, vI v1, vI v2]) (st' := [vI 1, vI z_3]) (dg dc13 8 rfl) rfl rfl ?_
  refine ex_icmp (t := 20) (dg dc13 9 rfl) rfl hf (fun _ hf => ?_) (fun _ hf => ?_)
  · refine ex_pu (ls' := [vR a, vI v1, vI v2]) (st' := [vI 0]) (dg dc13 12 rfl) rfl rfl ?_
    exact ex_ire (dg dc13 13 rfl) rfl hf
  · refine ex_pu (ls' := [vR a, vI v1, vI v2]) (st' := [vI 1]) (dg dc13 10 rfl) rfl rfl ?_
    refine ex_goto (t := 21) (dg dc13 11 rfl) rfl rfl ?_
    exact ex_ire (dg dc13 13 rfl) rfl hf
-- GlassHill$Land.eatsAt
def il14 : List (Nat × Instr × Nat) := [(0, .aload_n 0, 1), (1, .iload_n 1, 1), (2, .invokevirtual 92, 3), (5, .ifCond .eq 13, 3), (8, .aload_n 0, 1), (9, .getfield 40, 3), (12, .iload_n 1, 1), (13, .iaload, 1), (14, .iconst (-1), 1), (15, .if_icmp .ne 5, 3), (18, .iconst 0, 1), (19, .ireturn, 1), (20, .iload_n 2, 1), (21, .bipush 24, 2), (23, .irem, 1), (24, .istore_n 3, 1), (25, .iload_n 3, 1), (26, .aload_n 0, 1), (27, .getfield 40, 3), (30, .iload_n 1, 1), (31, .iaload, 1), (32, .if_icmp .lt 17, 3), (35, .iload_n 3, 1), (36, .aload_n 0, 1), (37, .getfield 43, 3), (40, .iload_n 1, 1), (41, .iaload, 1), (42, .if_icmp .gt 7, 3), (45, .iconst 1, 1), (46, .goto 4, 3), (49, .iconst 0, 1), (50, .ireturn, 1)]
theorem dc14 : dcs (mC 14) il14 := dc_of (by decide +kernel)
def land_eatsAt (a : Nat) (v1 : Int) (v2 : Int) (M : MM) : OR :=
  (bI (land_hasKeeper a v1 M) fun z_3 M_2 => (bif cmpB .eq z_3 0 then some (rI 0, M_2) else (bif inB v1 10 then (bif cmpB .ne (M_2 (a + 3) (v1).toNat) (-1) then (bif inB v1 10 then (bif cmpB .lt ((w32 v2).tmod (w32 24)) (M_2 (a + 3) (v1).toNat) then some (rI 0, M_2) else (bif inB v1 10 then (bif cmpB .gt ((w32 v2).tmod (w32 24)) (M_2 (a + 4) (v1).toNat) then some (rI 0, M_2) else some (rI 1, M_2)) else none)) else none) else some (rI 0, M_2)) else none)))
set_option maxRecDepth 4000 in
theorem land_eatsAt_ok {Z : Nat × (Nat → Int)} {d : Nat} (hd : 2 ≤ d) {M : MM} {a : Nat} (ha : isLand a) {v1 v2 : Int} {res : AR × MM} (hf : land_eatsAt a v1 v2 M = some res) : EX Z d 14 0 (ent 14 [vR a, vI v1, vI v2]) [] M res := by
  obtain ⟨e9, rfl⟩ : ∃ e9, d = e9 + 1 := ⟨d - 1, by omega⟩
  unfold land_eatsAt at hf
  show EX Z _ 14 0 [vR a, vI v1, vI v2, vU] [] M res
  refine ex_pu (ls' := [vR a, vI v1, vI v2, vU]) (st' := [vR a]) (dg dc14 0 rfl) rfl rfl ?_
  refine ex_pu (ls' := [vR a, vI v1, vI v2, vU]) (st' := [vI v1, vR a]) (dg dc14 1 rfl) rfl rfl ?_
  refine ex_cI (vs := [vR a, vI v1]) (st' := []) (F := (land_hasKeeper a v1 M)) (Or.inr (Or.inl ⟨rfl, (dg dc14 2 rfl)⟩)) rfl rfl (rk1 (locLand0 ha) rfl) rfl (fun _ r9 => land_hasKeeper_ok (Z := Z) (d := e9) (by omega) ha  r9) hf (fun z_3 M_2 he_1 hf => ?_)
  refine ex_if (t := 18) (dg dc14 3 rfl) rfl hf (fun _ hf => ?_) (fun _ hf => ?_)
  · refine ex_pu (ls' := [vR a, vI v1, vI v2, vU]) (st' := [vI 0]) (dg dc14 10 rfl) rfl rfl ?_
    exact ex_ire (dg dc14 11 rfl) rfl hf
  · refine ex_pu (ls' := [vR a, vI v1, vI v2, vU]) (st' := [vR a]) (dg dc14 4 rfl) rfl rfl ?_
    refine ex_getO (dg dc14 5 rfl) rfl (locLand0 ha) rfl ?_
    show EX Z _ 14 _ [vR a, vI v1, vI v2, vU] [vR (a + 3)] _ _
    refine ex_pu (ls' := [vR a, vI v1, vI v2, vU]) (st' := [vI v1, vR (a + 3)]) (dg dc14 6 rfl) rfl rfl ?_
    refine ex_iald (dg dc14 7 rfl) (locLand3 ha) rfl hf (fun _ hf => ?_)
    refine ex_pu (ls' := [vR a, vI v1, vI v2, vU]) (st' := [vI (-1), vI (M_2 (a + 3) (v1).toNat)]) (dg dc14 8 rfl) rfl rfl ?_
    refine ex_icmp (t := 20) (dg dc14 9 rfl) rfl hf (fun _ hf => ?_) (fun _ hf => ?_)
    · refine ex_pu (ls' := [vR a, vI v1, vI v2, vU]) (st' := [vI v2]) (dg dc14 12 rfl) rfl rfl ?_
      refine ex_pu (ls' := [vR a, vI v1, vI v2, vU]) (st' := [vI 24, vI v2]) (dg dc14 13 rfl) rfl rfl ?_
      refine ex_irem (dg dc14 14 rfl) (by decide +kernel) ?_
      refine ex_pu (ls' := [vR a, vI v1, vI v2, vI ((w32 v2).tmod (w32 24))]) (st' := []) (dg dc14 15 rfl) rfl rfl ?_
      refine ex_pu (ls' := [vR a, vI v1, vI v2, vI ((w32 v2).tmod (w32 24))]) (st' := [vI ((w32 v2).tmod (w32 24))]) (dg dc14 16 rfl) rfl rfl ?_
      refine ex_pu (ls' := [vR a, vI v1, vI v2, vI ((w32 v2).tmod (w32 24))]) (st' := [vR a, vI ((w32 v2).tmod (w32 24))]) (dg dc14 17 rfl) rfl rfl ?_
      refine ex_getO (dg dc14 18 rfl) rfl (locLand0 ha) rfl ?_
      show EX Z _ 14 _ [vR a, vI v1, vI v2, vI ((w32 v2).tmod (w32 24))] [vR (a + 3), vI ((w32 v2).tmod (w32 24))] _ _
      refine ex_pu (ls' := [vR a, vI v1, vI v2, vI ((w32 v2).tmod (w32 24))]) (st' := [vI v1, vR (a + 3), vI ((w32 v2).tmod (w32 24))]) (dg dc14 19 rfl) rfl rfl ?_
      refine ex_iald (dg dc14 20 rfl) (locLand3 ha) rfl hf (fun _ hf => ?_)
      refine ex_icmp (t := 49) (dg dc14 21 rfl) rfl hf (fun _ hf => ?_) (fun _ hf => ?_)
      · refine ex_pu (ls' := [vR a, vI v1, vI v2, vI ((w32 v2).tmod (w32 24))]) (st' := [vI 0]) (dg dc14 30 rfl) rfl rfl ?_
        exact ex_ire (dg dc14 31 rfl) rfl hf
      · refine ex_pu (ls' := [vR a, vI v1, vI v2, vI ((w32 v2).tmod (w32 24))]) (st' := [vI ((w32 v2).tmod (w32 24))]) (dg dc14 22 rfl) rfl rfl ?_
        refine ex_pu (ls' := [vR a, vI v1, vI v2, vI ((w32 v2).tmod (w32 24))]) (st' := [vR a, vI ((w32 v2).tmod (w32 24))]) (dg dc14 23 rfl) rfl rfl ?_
        refine ex_getO (dg dc14 24 rfl) rfl (locLand0 ha) rfl ?_
        show EX Z _ 14 _ [vR a, vI v1, vI v2, vI ((w32 v2).tmod (w32 24))] [vR (a + 4), vI ((w32 v2).tmod (w32 24))] _ _
        refine ex_pu (ls' := [vR a, vI v1, vI v2, vI ((w32 v2).tmod (w32 24))]) (st' := [vI v1, vR (a + 4), vI ((w32 v2).tmod (w32 24))]) (dg dc14 25 rfl) rfl rfl ?_
        refine ex_iald (dg dc14 26 rfl) (locLand4 ha) rfl hf (fun _ hf => ?_)
        refine ex_icmp (t := 49) (dg dc14 27 rfl) rfl hf (fun _ hf => ?_) (fun _ hf => ?_)
        · refine ex_pu (ls' := [vR a, vI v1, vI v2, vI ((w32 v2).tmod (w32 24))]) (st' := [vI 0]) (dg dc14 30 rfl) rfl rfl ?_
          exact ex_ire (dg dc14 31 rfl) rfl hf
        · refine ex_pu (ls' := [vR a, vI v1, vI v2, vI ((w32 v2).tmod (w32 24))]) (st' := [vI 1]) (dg dc14 28 rfl) rfl rfl ?_
          refine ex_goto (t := 50) (dg dc14 29 rfl) rfl rfl ?_
          exact ex_ire (dg dc14 31 rfl) rfl hf
    · refine ex_pu (ls' := [vR a, vI v1, vI v2, vU]) (st' := [vI 0]) (dg dc14 10 rfl) rfl rfl ?_
      exact ex_ire (dg dc14 11 rfl) rfl hf
-- GlassHill$Land.worthOf
def il17 : List (Nat × Instr × Nat) := [(0, .iconst 0, 1), (1, .istore_n 2, 1), (2, .iconst 0, 1), (3, .istore_n 3, 1), (4, .iload_n 3, 1), (5, .aload_n 0, 1), (6, .getfield 15, 3), (9, .if_icmp .ge 33, 3), (12, .iload_n 3, 1), (13, .bipush 10, 2), (15, .if_icmp .ge 27, 3), (18, .iload_n 1, 1), (19, .iload_n 3, 1), (20, .invokestatic 89, 3), (23, .iconst 1, 1), (24, .if_icmp .ne 12, 3), (27, .iload_n 2, 1), (28, .aload_n 0, 1), (29, .getfield 52, 3), (32, .iload_n 3, 1), (33, .iaload, 1), (34, .iadd, 1), (35, .istore_n 2, 1), (36, .iinc 3 1, 3), (39, .goto (-35), 3), (42, .iload_n 2, 1), (43, .ireturn, 1)]
theorem dc17 : dcs (mC 17) il17 := dc_of (by decide +kernel)
def land_worthOf_L4 (a : Nat) (v1 : Int) (K1 : Int → MM → OR) : Nat → Int → Int → MM → OR
  | 0, _, _, _ => none
  | n + 1, v2, v3, M => (bif cmpB .ge v3 (M a 1) then (K1 v2 M) else (bif cmpB .ge v3 10 then (K1 v2 M) else (bI (gh_bit v1 v3 M) fun z_3 M_2 => (bif cmpB .ne z_3 1 then (land_worthOf_L4 a v1 K1 n v2 (v3 + 1) M_2) else (bif inB v3 10 then (land_worthOf_L4 a v1 K1 n (v2 + (M_2 (a + 7) (v3).toNat)) (v3 + 1) M_2) else none)))))
set_option maxRecDepth 4000 in
theorem land_worthOf_L4_ok {Z : Nat × (Nat → Int)} {d : Nat} (hd : 1 ≤ d) {a : Nat} (ha : isLand a) {v1 : Int} {K1 : Int → MM → OR} {res : AR × MM} (k1 : ∀ (x2 : Int) (M : MM) (j0 j1 j3 : AV), K1 x2 M = some res → EX Z d 17 42 [j0, j1, vI x2, j3] [] M res) : ∀ (n : Nat) (v2 v3 : Int) (M : MM), land_worthOf_L4 a v1 K1 n v2 v3 M = some res → EX Z d 17 4 [vR a, vI v1, vI v2, vI v3] [] M res := by
  obtain ⟨e9, rfl⟩ : ∃ e9, d = e9 + 1 := ⟨d - 1, by omega⟩
  intro n
  induction n with
  | zero =>
    intro v2 v3 M hf
    unfold land_worthOf_L4 at hf
    cases hf
  | succ n ih =>
    intro v2 v3 M hf
    unfold land_worthOf_L4 at hf
    refine ex_pu (ls' := [vR a, vI v1, vI v2, vI v3]) (st' := [vI v3]) (dg dc17 4 rfl) rfl rfl ?_
    refine ex_pu (ls' := [vR a, vI v1, vI v2, vI v3]) (st' := [vR a, vI v3]) (dg dc17 5 rfl) rfl rfl ?_
    refine ex_getI (dg dc17 6 rfl) rfl (locLand0 ha) rfl ?_
    refine ex_icmp (t := 42) (dg dc17 7 rfl) rfl hf (fun _ hf => ?_) (fun _ hf => ?_)
    · exact k1 v2 M _ _ _ hf
    · refine ex_pu (ls' := [vR a, vI v1, vI v2, vI v3]) (st' := [vI v3]) (dg dc17 8 rfl) rfl rfl ?_
      refine ex_pu (ls' := [vR a, vI v1, vI v2, vI v3]) (st' := [vI 10, vI v3]) (dg dc17 9 rfl) rfl rfl ?_
      refine ex_icmp (t := 42) (dg dc17 10 rfl) rfl hf (fun _ hf => ?_) (fun _ hf => ?_)
      · exact k1 v2 M _ _ _ hf
      · refine ex_pu (ls' := [vR a, vI v1, vI v2, vI v3]) (st' := [vI v1]) (dg dc17 11 rfl) rfl rfl ?_
        refine ex_pu (ls' := [vR a, vI v1, vI v2, vI v3]) (st' := [vI v3, vI v1]) (dg dc17 12 rfl) rfl rfl ?_
        refine ex_cI (vs := [vI v1, vI v3]) (st' := []) (F := (gh_bit v1 v3 M)) (Or.inl ⟨rfl, (dg dc17 13 rfl)⟩) rfl rfl (Or.inl rfl) rfl (fun _ r9 => gh_bit_ok (Z := Z) (d := e9) (by omega)  r9) hf (fun z_3 M_2 he_1 hf => ?_)
        refine ex_pu (ls' := [vR a, vI v1, vI v2, vI v3]) (st' := [vI 1, vI z_3]) (dg dc17 14 rfl) rfl rfl ?_
        refine ex_icmp (t := 36) (dg dc17 15 rfl) rfl hf (fun _ hf => ?_) (fun _ hf => ?_)
        · refine ex_pu (ls' := [vR a, vI v1, vI v2, vI (v3 + 1)]) (st' := []) (dg dc17 23 rfl) rfl rfl ?_
          refine ex_goto (t := 4) (dg dc17 24 rfl) rfl rfl ?_
          exact ih v2 (v3 + 1) M_2 hf
        · refine ex_pu (ls' := [vR a, vI v1, vI v2, vI v3]) (st' := [vI v2]) (dg dc17 16 rfl) rfl rfl ?_
          refine ex_pu (ls' := [vR a, vI v1, vI v2, vI v3]) (st' := [vR a, vI v2]) (dg dc17 17 rfl) rfl rfl ?_
          refine ex_getO (dg dc17 18 rfl) rfl (locLand0 ha) rfl ?_
          show EX Z _ 17 _ [vR a, vI v1, vI v2, vI v3] [vR (a + 7), vI v2] _ _
          refine ex_pu (ls' := [vR a, vI v1, vI v2, vI v3]) (st' := [vI v3, vR (a + 7), vI v2]) (dg dc17 19 rfl) rfl rfl ?_
          refine ex_iald (dg dc17 20 rfl) (locLand7 ha) rfl hf (fun _ hf => ?_)
          refine ex_pu (ls' := [vR a, vI v1, vI v2, vI v3]) (st' := [vI (v2 + (M_2 (a + 7) (v3).toNat))]) (dg dc17 21 rfl) rfl rfl ?_
          refine ex_pu (ls' := [vR a, vI v1, vI (v2 + (M_2 (a + 7) (v3).toNat)), vI v3]) (st' := []) (dg dc17 22 rfl) rfl rfl ?_
          refine ex_pu (ls' := [vR a, vI v1, vI (v2 + (M_2 (a + 7) (v3).toNat)), vI (v3 + 1)]) (st' := []) (dg dc17 23 rfl) rfl rfl ?_
          refine ex_goto (t := 4) (dg dc17 24 rfl) rfl rfl ?_
          exact ih (v2 + (M_2 (a + 7) (v3).toNat)) (v3 + 1) M_2 hf
def land_worthOf (a : Nat) (v1 : Int) (M : MM) : OR :=
  (land_worthOf_L4 a v1 (fun v2_4 M_5 => some (rI v2_4, M_5)) FU 0 0 M)
set_option maxRecDepth 4000 in
theorem land_worthOf_ok {Z : Nat × (Nat → Int)} {d : Nat} (hd : 1 ≤ d) {M : MM} {a : Nat} (ha : isLand a) {v1 : Int} {res : AR × MM} (hf : land_worthOf a v1 M = some res) : EX Z d 17 0 (ent 17 [vR a, vI v1]) [] M res := by
  obtain ⟨e9, rfl⟩ : ∃ e9, d = e9 + 1 := ⟨d - 1, by omega⟩
  unfold land_worthOf at hf
  show EX Z _ 17 0 [vR a, vI v1, vU, vU] [] M res
  refine ex_pu (ls' := [vR a, vI v1, vU, vU]) (st' := [vI 0]) (dg dc17 0 rfl) rfl rfl ?_
  refine ex_pu (ls' := [vR a, vI v1, vI 0, vU]) (st' := []) (dg dc17 1 rfl) rfl rfl ?_
  refine ex_pu (ls' := [vR a, vI v1, vI 0, vU]) (st' := [vI 0]) (dg dc17 2 rfl) rfl rfl ?_
  refine ex_pu (ls' := [vR a, vI v1, vI 0, vI 0]) (st' := []) (dg dc17 3 rfl) rfl rfl ?_
  refine land_worthOf_L4_ok hd ha ?_ FU 0 0 M hf
  · intro v2_4 M_5 j0_6 j1_7 j3_8 hf
    refine ex_pu (ls' := [j0_6, j1_7, vI v2_4, j3_8]) (st' := [vI v2_4]) (dg dc17 25 rfl) rfl rfl ?_
    exact ex_ire (dg dc17 26 rfl) rfl hf
-- GlassHill$Land.cheapest
def il18 : List (Nat × Instr × Nat) := [(0, .iconst (-1), 1), (1, .istore_n 2, 1), (2, .iconst 0, 1), (3, .istore_n 3, 1), (4, .iload_n 3, 1), (5, .aload_n 0, 1), (6, .getfield 15, 3), (9, .if_icmp .ge 46, 3), (12, .iload_n 3, 1), (13, .bipush 10, 2), (15, .if_icmp .ge 40, 3), (18, .iload_n 1, 1), (19, .iload_n 3, 1), (20, .invokestatic 89, 3), (23, .iconst 1, 1), (24, .if_icmp .ne 25, 3), (27, .iload_n 2, 1), (28, .iconst (-1), 1), (29, .if_icmp .eq 18, 3), (32, .aload_n 0, 1), (33, .getfield 52, 3), (36, .iload_n 3, 1), (37, .iaload, 1), (38, .aload_n 0, 1), (39, .getfield 52, 3), (42, .iload_n 2, 1), (43, .iaload, 1), (44, .if_icmp .ge 5, 3), (47, .iload_n 3, 1), (48, .istore_n 2, 1), (49, .iinc 3 1, 3), (52, .goto (-48), 3), (55, .iload_n 2, 1), (56, .ireturn, 1)]
theorem dc18 : dcs (mC 18) il18 := dc_of (by decide +kernel)
def land_cheapest_L4 (a : Nat) (v1 : Int) (K1 : Int → MM → OR) : Nat → Int → Int → MM → OR
  | 0, _, _, _ => none
  | n + 1, v2, v3, M => (bif cmpB .ge v3 (M a 1) then (K1 v2 M) else (bif cmpB .ge v3 10 then (K1 v2 M) else (bI (gh_bit v1 v3 M) fun z_3 M_2 => (bif cmpB .ne z_3 1 then (land_cheapest_L4 a v1 K1 n v2 (v3 + 1) M_2) else (bif cmpB .eq v2 (-1) then (land_cheapest_L4 a v1 K1 n v3 (v3 + 1) M_2) else (bif inB v3 10 then (bif inB v2 10 then (bif cmpB .ge (M_2 (a + 7) (v3).toNat) (M_2 (a + 7) (v2).toNat) then (land_cheapest_L4 a v1 K1 n v2 (v3 + 1) M_2) else (land_cheapest_L4 a v1 K1 n v3 (v3 + 1) M_2)) else none) else none))))))
set_option maxRecDepth 4000 in
theorem land_cheapest_L4_ok {Z : Nat × (Nat → Int)} {d : Nat} (hd : 1 ≤ d) {a : Nat} (ha : isLand a) {v1 : Int} {K1 : Int → MM → OR} {res : AR × MM} (k1 : ∀ (x2 : Int) (M : MM) (j0 j1 j3 : AV), K1 x2 M = some res → EX Z d 18 55 [j0, j1, vI x2, j3] [] M res) : ∀ (n : Nat) (v2 v3 : Int) (M : MM), land_cheapest_L4 a v1 K1 n v2 v3 M = some res → EX Z d 18 4 [vR a, vI v1, vI v2, vI v3] [] M res := by
  obtain ⟨e9, rfl⟩ : ∃ e9, d = e9 + 1 := ⟨d - 1, by omega⟩
  intro n
  induction n with
  | zero =>
    intro v2 v3 M hf
    unfold land_cheapest_L4 at hf
    cases hf
  | succ n ih =>
    intro v2 v3 M hf
    unfold land_cheapest_L4 at hf
    refine ex_pu (ls' := [vR a, vI v1, vI v2, vI v3]) (st' := [vI v3]) (dg dc18 4 rfl) rfl rfl ?_
    refine ex_pu (ls' := [vR a, vI v1, vI v2, vI v3]) (st' := [vR a, vI v3]) (dg dc18 5 rfl) rfl rfl ?_
    refine ex_getI (dg dc18 6 rfl) rfl (locLand0 ha) rfl ?_
    refine ex_icmp (t := 55) (dg dc18 7 rfl) rfl hf (fun _ hf => ?_) (fun _ hf => ?_)
    · exact k1 v2 M _ _ _ hf
    · refine ex_pu (ls' := [vR a, vI v1, vI v2, vI v3]) (st' := [vI v3]) (dg dc18 8 rfl) rfl rfl ?_
      refine ex_pu (ls' := [vR a, vI v1, vI v2, vI v3]) (st' := [vI 10, vI v3]) (dg dc18 9 rfl) rfl rfl ?_
      refine ex_icmp (t := 55) (dg dc18 10 rfl) rfl hf (fun _ hf => ?_) (fun _ hf => ?_)
      · exact k1 v2 M _ _ _ hf
      · refine ex_pu (ls' := [vR a, vI v1, vI v2, vI v3]) (st' := [vI v1]) (dg dc18 11 rfl) rfl rfl ?_
        refine ex_pu (ls' := [vR a, vI v1, vI v2, vI v3]) (st' := [vI v3, vI v1]) (dg dc18 12 rfl) rfl rfl ?_
        refine ex_cI (vs := [vI v1, vI v3]) (st' := []) (F := (gh_bit v1 v3 M)) (Or.inl ⟨rfl, (dg dc18 13 rfl)⟩) rfl rfl (Or.inl rfl) rfl (fun _ r9 => gh_bit_ok (Z := Z) (d := e9) (by omega)  r9) hf (fun z_3 M_2 he_1 hf => ?_)
        refine ex_pu (ls' := [vR a, vI v1, vI v2, vI v3]) (st' := [vI 1, vI z_3]) (dg dc18 14 rfl) rfl rfl ?_
        refine ex_icmp (t := 49) (dg dc18 15 rfl) rfl hf (fun _ hf => ?_) (fun _ hf => ?_)
        · refine ex_pu (ls' := [vR a, vI v1, vI v2, vI (v3 + 1)]) (st' := []) (dg dc18 30 rfl) rfl rfl ?_
          refine ex_goto (t := 4) (dg dc18 31 rfl) rfl rfl ?_
          exact ih v2 (v3 + 1) M_2 hf
        · refine ex_pu (ls' := [vR a, vI v1, vI v2, vI v3]) (st' := [vI v2]) (dg dc18 16 rfl) rfl rfl ?_
          refine ex_pu (ls' := [vR a, vI v1, vI v2, vI v3]) (st' := [vI (-1), vI v2]) (dg dc18 17 rfl) rfl rfl ?_
          refine ex_icmp (t := 47) (dg dc18 18 rfl) rfl hf (fun _ hf => ?_) (fun _ hf => ?_)
          · refine ex_pu (ls' := [vR a, vI v1, vI v2, vI v3]) (st' := [vI v3]) (dg dc18 28 rfl) rfl rfl ?_
            refine ex_pu (ls' := [vR a, vI v1, vI v3, vI v3]) (st' := []) (dg dc18 29 rfl) rfl rfl ?_
            refine ex_pu (ls' := [vR a, vI v1, vI v3, vI (v3 + 1)]) (st' := []) (dg dc18 30 rfl) rfl rfl ?_
            refine ex_goto (t := 4) (dg dc18 31 rfl) rfl rfl ?_
            exact ih v3 (v3 + 1) M_2 hf
          · refine ex_pu (ls' := [vR a, vI v1, vI v2, vI v3]) (st' := [vR a]) (dg dc18 19 rfl) rfl rfl ?_
            refine ex_getO (dg dc18 20 rfl) rfl (locLand0 ha) rfl ?_
            show EX Z _ 18 _ [vR a, vI v1, vI v2, vI v3] [vR (a + 7)] _ _
            refine ex_pu (ls' := [vR a, vI v1, vI v2, vI v3]) (st' := [vI v3, vR (a + 7)]) (dg dc18 21 rfl) rfl rfl ?_
            refine ex_iald (dg dc18 22 rfl) (locLand7 ha) rfl hf (fun _ hf => ?_)
            refine ex_pu (ls' := [vR a, vI v1, vI v2, vI v3]) (st' := [vR a, vI (M_2 (a + 7) (v3).toNat)]) (dg dc18 23 rfl) rfl rfl ?_
            refine ex_getO (dg dc18 24 rfl) rfl (locLand0 ha) rfl ?_
            show EX Z _ 18 _ [vR a, vI v1, vI v2, vI v3] [vR (a + 7), vI (M_2 (a + 7) (v3).toNat)] _ _
            refine ex_pu (ls' := [vR a, vI v1, vI v2, vI v3]) (st' := [vI v2, vR (a + 7), vI (M_2 (a + 7) (v3).toNat)]) (dg dc18 25 rfl) rfl rfl ?_
            refine ex_iald (dg dc18 26 rfl) (locLand7 ha) rfl hf (fun _ hf => ?_)
            refine ex_icmp (t := 49) (dg dc18 27 rfl) rfl hf (fun _ hf => ?_) (fun _ hf => ?_)
            · refine ex_pu (ls' := [vR a, vI v1, vI v2, vI (v3 + 1)]) (st' := []) (dg dc18 30 rfl) rfl rfl ?_
              refine ex_goto (t := 4) (dg dc18 31 rfl) rfl rfl ?_
              exact ih v2 (v3 + 1) M_2 hf
            · refine ex_pu (ls' := [vR a, vI v1, vI v2, vI v3]) (st' := [vI v3]) (dg dc18 28 rfl) rfl rfl ?_
              refine ex_pu (ls' := [vR a, vI v1, vI v3, vI v3]) (st' := []) (dg dc18 29 rfl) rfl rfl ?_
              refine ex_pu (ls' := [vR a, vI v1, vI v3, vI (v3 + 1)]) (st' := []) (dg dc18 30 rfl) rfl rfl ?_
              refine ex_goto (t := 4) (dg dc18 31 rfl) rfl rfl ?_
              exact ih v3 (v3 + 1) M_2 hf
def land_cheapest (a : Nat) (v1 : Int) (M : MM) : OR :=
  (land_cheapest_L4 a v1 (fun v2_4 M_5 => some (rI v2_4, M_5)) FU (-1) 0 M)
set_option maxRecDepth 4000 in
theorem land_cheapest_ok {Z : Nat × (Nat → Int)} {d : Nat} (hd : 1 ≤ d) {M : MM} {a : Nat} (ha : isLand a) {v1 : Int} {res : AR × MM} (hf : land_cheapest a v1 M = some res) : EX Z d 18 0 (ent 18 [vR a, vI v1]) [] M res := by
  obtain ⟨e9, rfl⟩ : ∃ e9, d = e9 + 1 := ⟨d - 1, by omega⟩
  unfold land_cheapest at hf
  show EX Z _ 18 0 [vR a, vI v1, vU, vU] [] M res
  refine ex_pu (ls' := [vR a, vI v1, vU, vU]) (st' := [vI (-1)]) (dg dc18 0 rfl) rfl rfl ?_
  refine ex_pu (ls' := [vR a, vI v1, vI (-1), vU]) (st' := []) (dg dc18 1 rfl) rfl rfl ?_
  refine ex_pu (ls' := [vR a, vI v1, vI (-1), vU]) (st' := [vI 0]) (dg dc18 2 rfl) rfl rfl ?_
  refine ex_pu (ls' := [vR a, vI v1, vI (-1), vI 0]) (st' := []) (dg dc18 3 rfl) rfl rfl ?_
  refine land_cheapest_L4_ok hd ha ?_ FU (-1) 0 M hf
  · intro v2_4 M_5 j0_6 j1_7 j3_8 hf
    refine ex_pu (ls' := [j0_6, j1_7, vI v2_4, j3_8]) (st' := [vI v2_4]) (dg dc18 32 rfl) rfl rfl ?_
    exact ex_ire (dg dc18 33 rfl) rfl hf
-- GlassHill$Law.holds
def il25 : List (Nat × Instr × Nat) := [(0, .iconst 0, 1), (1, .istore_n 2, 1), (2, .iload_n 1, 1), (3, .ifCond .ne 7, 3), (6, .iconst 0, 1), (7, .goto 11, 3), (10, .aload_n 0, 1), (11, .getfield 19, 3), (14, .iload_n 1, 1), (15, .iconst 1, 1), (16, .isub, 1), (17, .iaload, 1), (18, .istore_n 3, 1), (19, .iload_n 3, 1), (20, .aload_n 0, 1), (21, .getfield 19, 3), (24, .iload_n 1, 1), (25, .iaload, 1), (26, .if_icmp .ge 151, 3), (29, .iload_n 3, 1), (30, .sipush 400, 3), (33, .if_icmp .ge 144, 3), (36, .aload_n 0, 1), (37, .getfield 24, 3), (40, .iload_n 3, 1), (41, .iaload, 1), (42, .istore 4, 2), (44, .iload 4, 2), (46, .sipush 1008, 3), (49, .if_icmp .ge 45, 3), (52, .iload_n 2, 1), (53, .bipush 32, 2), (55, .if_icmp .ge 39, 3), (58, .aload_n 0, 1), (59, .getfield 33, 3), (62, .iload_n 2, 1), (63, .iload 4, 2), (65, .sipush 1000, 3), (68, .if_icmp .ge 8, 3), (71, .iload 4, 2), (73, .goto 14, 3), (76, .aload_n 0, 1), (77, .getfield 30, 3), (80, .iload 4, 2), (82, .sipush 1000, 3), (85, .isub, 1), (86, .iaload, 1), (87, .iastore, 1), (88, .iinc 2 1, 3), (91, .goto 80, 3), (94, .iload 4, 2), (96, .sipush 1008, 3), (99, .if_icmp .ne 29, 3), (102, .iload_n 2, 1), (103, .iconst 1, 1), (104, .if_icmp .lt 24, 3), (107, .aload_n 0, 1), (108, .getfield 33, 3), (111, .iload_n 2, 1), (112, .iconst 1, 1), (113, .isub, 1), (114, .iconst 1, 1), (115, .aload_n 0, 1), (116, .getfield 33, 3), (119, .iload_n 2, 1), (120, .iconst 1, 1), (121, .isub, 1), (122, .iaload, 1), (123, .isub, 1), (124, .iastore, 1), (125, .goto 46, 3), (128, .iload 4, 2), (130, .sipush 1008, 3), (133, .if_icmp .le 38, 3), (136, .iload_n 2, 1), (137, .iconst 2, 1), (138, .if_icmp .lt 33, 3), (141, .iinc 2 (-1), 3), (144, .aload_n 0, 1), (145, .getfield 33, 3), (148, .iload_n 2, 1), (149, .iconst 1, 1), (150, .isub, 1), (151, .iload 4, 2), (153, .aload_n 0, 1), (154, .getfield 33, 3), (157, .iload_n 2, 1), (158, .iconst 1, 1), (159, .isub, 1), (160, .iaload, 1), (161, .aload_n 0, 1), (162, .getfield 33, 3), (165, .iload_n 2, 1), (166, .iaload, 1), (167, .invokestatic 42, 3), (170, .iastore, 1), (171, .iinc 3 1, 3), (174, .goto (-155), 3), (177, .iload_n 2, 1), (178, .ifCond .eq 12, 3), (181, .aload_n 0, 1), (182, .getfield 33, 3), (185, .iconst 0, 1), (186, .iaload, 1), (187, .ifCond .eq 7, 3), (190, .iconst 1, 1), (191, .goto 4, 3), (194, .iconst 0, 1), (195, .ireturn, 1)]
theorem dc25 : dcs (mC 25) il25 := dc_of (by decide +kernel)
def law_holds_J128 (a : Nat) (v1 : Int) (Kb : Int → Int → MM → OR) (K1 : Int → MM → OR) (v2 v3 v4 : Int) (M : MM) : OR :=
  (bif cmpB .le v4 1008 then (Kb v2 (v3 + 1) M) else (bif cmpB .lt v2 2 then (Kb v2 (v3 + 1) M) else (bif inB ((v2 + (-1)) - 1) 32 then (bif inB (v2 + (-1)) 32 then (bI (law_joined v4 (M (a + 5) (((v2 + (-1)) - 1)).toNat) (M (a + 5) ((v2 + (-1))).toNat) M) fun z_3 M_2 => (bif inB ((v2 + (-1)) - 1) 32 then (sM (mU M_2 (a + 5) (((v2 + (-1)) - 1)).toNat z_3) fun M_4 => (Kb (v2 + (-1)) (v3 + 1) M_4)) else none)) else none) else none)))
set_option maxRecDepth 4000 in
theorem law_holds_J128_ok {Z : Nat × (Nat → Int)} {d : Nat} (hd : 1 ≤ d) {a : Nat} (ha : isLaw a) {v1 : Int} {Kb : Int → Int → MM → OR} {K1 : Int → MM → OR} {res : AR × MM} (kb : ∀ (x2 x3 : Int) (M : MM) (j4 : AV), Kb x2 x3 M = some res → EX Z d 25 19 [vR a, vI v1, vI x2, vI x3, j4] [] M res) (k1 : ∀ (x2 : Int) (M : MM) (j1 j3 j4 : AV), K1 x2 M = some res → EX Z d 25 177 [vR a, j1, vI x2, j3, j4] [] M res) : ∀ (v2 v3 v4 : Int) (M : MM), law_holds_J128 a v1 Kb K1 v2 v3 v4 M = some res → EX Z d 25 128 [vR a, vI v1, vI v2, vI v3, vI v4] [] M res := by
  obtain ⟨e9, rfl⟩ : ∃ e9, d = e9 + 1 := ⟨d - 1, by omega⟩
  intro v2 v3 v4 M hf
  unfold law_holds_J128 at hf
  refine ex_pu (ls' := [vR a, vI v1, vI v2, vI v3, vI v4]) (st' := [vI v4]) (dg dc25 71 rfl) rfl rfl ?_
  refine ex_pu (ls' := [vR a, vI v1, vI v2, vI v3, vI v4]) (st' := [vI 1008, vI v4]) (dg dc25 72 rfl) rfl rfl ?_
  refine ex_icmp (t := 171) (dg dc25 73 rfl) rfl hf (fun _ hf => ?_) (fun _ hf => ?_)
  · refine ex_pu (ls' := [vR a, vI v1, vI v2, vI (v3 + 1), vI v4]) (st' := []) (dg dc25 96 rfl) rfl rfl ?_
    refine ex_goto (t := 19) (dg dc25 97 rfl) rfl rfl ?_
    exact kb v2 (v3 + 1) M _ hf
  · refine ex_pu (ls' := [vR a, vI v1, vI v2, vI v3, vI v4]) (st' := [vI v2]) (dg dc25 74 rfl) rfl rfl ?_
    refine ex_pu (ls' := [vR a, vI v1, vI v2, vI v3, vI v4]) (st' := [vI 2, vI v2]) (dg dc25 75 rfl) rfl rfl ?_
    refine ex_icmp (t := 171) (dg dc25 76 rfl) rfl hf (fun _ hf => ?_) (fun _ hf => ?_)
    · refine ex_pu (ls' := [vR a, vI v1, vI v2, vI (v3 + 1), vI v4]) (st' := []) (dg dc25 96 rfl) rfl rfl ?_
      refine ex_goto (t := 19) (dg dc25 97 rfl) rfl rfl ?_
      exact kb v2 (v3 + 1) M _ hf
    · refine ex_pu (ls' := [vR a, vI v1, vI (v2 + (-1)), vI v3, vI v4]) (st' := []) (dg dc25 77 rfl) rfl rfl ?_
      refine ex_pu (ls' := [vR a, vI v1, vI (v2 + (-1)), vI v3, vI v4]) (st' := [vR a]) (dg dc25 78 rfl) rfl rfl ?_
      refine ex_getO (dg dc25 79 rfl) rfl (locLaw0 ha) rfl ?_
      show EX Z _ 25 _ [vR a, vI v1, vI (v2 + (-1)), vI v3, vI v4] [vR (a + 5)] _ _
      refine ex_pu (ls' := [vR a, vI v1, vI (v2 + (-1)), vI v3, vI v4]) (st' := [vI (v2 + (-1)), vR (a + 5)]) (dg dc25 80 rfl) rfl rfl ?_
      refine ex_pu (ls' := [vR a, vI v1, vI (v2 + (-1)), vI v3, vI v4]) (st' := [vI 1, vI (v2 + (-1)), vR (a + 5)]) (dg dc25 81 rfl) rfl rfl ?_
      refine ex_pu (ls' := [vR a, vI v1, vI (v2 + (-1)), vI v3, vI v4]) (st' := [vI ((v2 + (-1)) - 1), vR (a + 5)]) (dg dc25 82 rfl) rfl rfl ?_
      refine ex_pu (ls' := [vR a, vI v1, vI (v2 + (-1)), vI v3, vI v4]) (st' := [vI v4, vI ((v2 + (-1)) - 1), vR (a + 5)]) (dg dc25 83 rfl) rfl rfl ?_
      refine ex_pu (ls' := [vR a, vI v1, vI (v2 + (-1)), vI v3, vI v4]) (st' := [vR a, vI v4, vI ((v2 + (-1)) - 1), vR (a + 5)]) (dg dc25 84 rfl) rfl rfl ?_
      refine ex_getO (dg dc25 85 rfl) rfl (locLaw0 ha) rfl ?_
      show EX Z _ 25 _ [vR a, vI v1, vI (v2 + (-1)), vI v3, vI v4] [vR (a + 5), vI v4, vI ((v2 + (-1)) - 1), vR (a + 5)] _ _
      refine ex_pu (ls' := [vR a, vI v1, vI (v2 + (-1)), vI v3, vI v4]) (st' := [vI (v2 + (-1)), vR (a + 5), vI v4, vI ((v2 + (-1)) - 1), vR (a + 5)]) (dg dc25 86 rfl) rfl rfl ?_
      refine ex_pu (ls' := [vR a, vI v1, vI (v2 + (-1)), vI v3, vI v4]) (st' := [vI 1, vI (v2 + (-1)), vR (a + 5), vI v4, vI ((v2 + (-1)) - 1), vR (a + 5)]) (dg dc25 87 rfl) rfl rfl ?_
      refine ex_pu (ls' := [vR a, vI v1, vI (v2 + (-1)), vI v3, vI v4]) (st' := [vI ((v2 + (-1)) - 1), vR (a + 5), vI v4, vI ((v2 + (-1)) - 1), vR (a + 5)]) (dg dc25 88 rfl) rfl rfl ?_
      refine ex_iald (dg dc25 89 rfl) (locLaw5 ha) rfl hf (fun _ hf => ?_)
      refine ex_pu (ls' := [vR a, vI v1, vI (v2 + (-1)), vI v3, vI v4]) (st' := [vR a, vI (M (a + 5) (((v2 + (-1)) - 1)).toNat), vI v4, vI ((v2 + (-1)) - 1), vR (a + 5)]) (dg dc25 90 rfl) rfl rfl ?_
      refine ex_getO (dg dc25 91 rfl) rfl (locLaw0 ha) rfl ?_
      show EX Z _ 25 _ [vR a, vI v1, vI (v2 + (-1)), vI v3, vI v4] [vR (a + 5), vI (M (a + 5) (((v2 + (-1)) - 1)).toNat), vI v4, vI ((v2 + (-1)) - 1), vR (a + 5)] _ _
      refine ex_pu (ls' := [vR a, vI v1, vI (v2 + (-1)), vI v3, vI v4]) (st' := [vI (v2 + (-1)), vR (a + 5), vI (M (a + 5) (((v2 + (-1)) - 1)).toNat), vI v4, vI ((v2 + (-1)) - 1), vR (a + 5)]) (dg dc25 92 rfl) rfl rfl ?_
      refine ex_iald (dg dc25 93 rfl) (locLaw5 ha) rfl hf (fun _ hf => ?_)
      refine ex_cI (vs := [vI v4, vI (M (a + 5) (((v2 + (-1)) - 1)).toNat), vI (M (a + 5) ((v2 + (-1))).toNat)]) (st' := [vI ((v2 + (-1)) - 1), vR (a + 5)]) (F := (law_joined v4 (M (a + 5) (((v2 + (-1)) - 1)).toNat) (M (a + 5) ((v2 + (-1))).toNat) M)) (Or.inl ⟨rfl, (dg dc25 94 rfl)⟩) rfl rfl (Or.inl rfl) rfl (fun _ r9 => law_joined_ok (Z := Z) (d := e9) (by omega)  r9) hf (fun z_3 M_2 he_1 hf => ?_)
      refine ex_iast (dg dc25 95 rfl) (locLaw5 ha) rfl (ne17_Law_5 ha) hf (fun _ hf => ?_)
      refine ex_gen hf (fun M_4 hM_5 hf => ?_)
      refine ex_pu (ls' := [vR a, vI v1, vI (v2 + (-1)), vI (v3 + 1), vI v4]) (st' := []) (dg dc25 96 rfl) rfl rfl ?_
      refine ex_goto (t := 19) (dg dc25 97 rfl) rfl rfl ?_
      exact kb (v2 + (-1)) (v3 + 1) M_4 _ hf
def law_holds_J94 (a : Nat) (v1 : Int) (Kb : Int → Int → MM → OR) (K1 : Int → MM → OR) (v2 v3 v4 : Int) (M : MM) : OR :=
  (bif cmpB .ne v4 1008 then (law_holds_J128 a v1 Kb K1 v2 v3 v4 M) else (bif cmpB .lt v2 1 then (law_holds_J128 a v1 Kb K1 v2 v3 v4 M) else (bif inB (v2 - 1) 32 then (bif inB (v2 - 1) 32 then (sM (mU M (a + 5) ((v2 - 1)).toNat (1 - (M (a + 5) ((v2 - 1)).toNat))) fun M_6 => (Kb v2 (v3 + 1) M_6)) else none) else none)))
set_option maxRecDepth 4000 in
theorem law_holds_J94_ok {Z : Nat × (Nat → Int)} {d : Nat} (hd : 1 ≤ d) {a : Nat} (ha : isLaw a) {v1 : Int} {Kb : Int → Int → MM → OR} {K1 : Int → MM → OR} {res : AR × MM} (kb : ∀ (x2 x3 : Int) (M : MM) (j4 : AV), Kb x2 x3 M = some res → EX Z d 25 19 [vR a, vI v1, vI x2, vI x3, j4] [] M res) (k1 : ∀ (x2 : Int) (M : MM) (j1 j3 j4 : AV), K1 x2 M = some res → EX Z d 25 177 [vR a, j1, vI x2, j3, j4] [] M res) : ∀ (v2 v3 v4 : Int) (M : MM), law_holds_J94 a v1 Kb K1 v2 v3 v4 M = some res → EX Z d 25 94 [vR a, vI v1, vI v2, vI v3, vI v4] [] M res := by
  obtain ⟨e9, rfl⟩ : ∃ e9, d = e9 + 1 := ⟨d - 1, by omega⟩
  intro v2 v3 v4 M hf
  unfold law_holds_J94 at hf
  refine ex_pu (ls' := [vR a, vI v1, vI v2, vI v3, vI v4]) (st' := [vI v4]) (dg dc25 50 rfl) rfl rfl ?_
  refine ex_pu (ls' := [vR a, vI v1, vI v2, vI v3, vI v4]) (st' := [vI 1008, vI v4]) (dg dc25 51 rfl) rfl rfl ?_
  refine ex_icmp (t := 128) (dg dc25 52 rfl) rfl hf (fun _ hf => ?_) (fun _ hf => ?_)
  · exact law_holds_J128_ok hd ha kb k1 v2 v3 v4 M hf
  · refine ex_pu (ls' := [vR a, vI v1, vI v2, vI v3, vI v4]) (st' := [vI v2]) (dg dc25 53 rfl) rfl rfl ?_
    refine ex_pu (ls' := [vR a, vI v1, vI v2, vI v3, vI v4]) (st' := [vI 1, vI v2]) (dg dc25 54 rfl) rfl rfl ?_
    refine ex_icmp (t := 128) (dg dc25 55 rfl) rfl hf (fun _ hf => ?_) (fun _ hf => ?_)
    · exact law_holds_J128_ok hd ha kb k1 v2 v3 v4 M hf
    · refine ex_pu (ls' := [vR a, vI v1, vI v2, vI v3, vI v4]) (st' := [vR a]) (dg dc25 56 rfl) rfl rfl ?_
      refine ex_getO (dg dc25 57 rfl) rfl (locLaw0 ha) rfl ?_
      show EX Z _ 25 _ [vR a, vI v1, vI v2, vI v3, vI v4] [vR (a + 5)] _ _
      refine ex_pu (ls' := [vR a, vI v1, vI v2, vI v3, vI v4]) (st' := [vI v2, vR (a + 5)]) (dg dc25 58 rfl) rfl rfl ?_
      refine ex_pu (ls' := [vR a, vI v1, vI v2, vI v3, vI v4]) (st' := [vI 1, vI v2, vR (a + 5)]) (dg dc25 59 rfl) rfl rfl ?_
      refine ex_pu (ls' := [vR a, vI v1, vI v2, vI v3, vI v4]) (st' := [vI (v2 - 1), vR (a + 5)]) (dg dc25 60 rfl) rfl rfl ?_
      refine ex_pu (ls' := [vR a, vI v1, vI v2, vI v3, vI v4]) (st' := [vI 1, vI (v2 - 1), vR (a + 5)]) (dg dc25 61 rfl) rfl rfl ?_
      refine ex_pu (ls' := [vR a, vI v1, vI v2, vI v3, vI v4]) (st' := [vR a, vI 1, vI (v2 - 1), vR (a + 5)]) (dg dc25 62 rfl) rfl rfl ?_
      refine ex_getO (dg dc25 63 rfl) rfl (locLaw0 ha) rfl ?_
      show EX Z _ 25 _ [vR a, vI v1, vI v2, vI v3, vI v4] [vR (a + 5), vI 1, vI (v2 - 1), vR (a + 5)] _ _
      refine ex_pu (ls' := [vR a, vI v1, vI v2, vI v3, vI v4]) (st' := [vI v2, vR (a + 5), vI 1, vI (v2 - 1), vR (a + 5)]) (dg dc25 64 rfl) rfl rfl ?_
      refine ex_pu (ls' := [vR a, vI v1, vI v2, vI v3, vI v4]) (st' := [vI 1, vI v2, vR (a + 5), vI 1, vI (v2 - 1), vR (a + 5)]) (dg dc25 65 rfl) rfl rfl ?_
      refine ex_pu (ls' := [vR a, vI v1, vI v2, vI v3, vI v4]) (st' := [vI (v2 - 1), vR (a + 5), vI 1, vI (v2 - 1), vR (a + 5)]) (dg dc25 66 rfl) rfl rfl ?_
      refine ex_iald (dg dc25 67 rfl) (locLaw5 ha) rfl hf (fun _ hf => ?_)
      refine ex_pu (ls' := [vR a, vI v1, vI v2, vI v3, vI v4]) (st' := [vI (1 - (M (a + 5) ((v2 - 1)).toNat)), vI (v2 - 1), vR (a + 5)]) (dg dc25 68 rfl) rfl rfl ?_
      refine ex_iast (dg dc25 69 rfl) (locLaw5 ha) rfl (ne17_Law_5 ha) hf (fun _ hf => ?_)
      refine ex_gen hf (fun M_6 hM_7 hf => ?_)
      refine ex_goto (t := 171) (dg dc25 70 rfl) rfl rfl ?_
      refine ex_pu (ls' := [vR a, vI v1, vI v2, vI (v3 + 1), vI v4]) (st' := []) (dg dc25 96 rfl) rfl rfl ?_
      refine ex_goto (t := 19) (dg dc25 97 rfl) rfl rfl ?_
      exact kb v2 (v3 + 1) M_6 _ hf
def law_holds_L19 (a : Nat) (v1 : Int) (K1 : Int → MM → OR) : Nat → Int → Int → MM → OR
  | 0, _, _, _ => none
  | n + 1, v2, v3, M => (bif inB v1 12 then (bif cmpB .ge v3 (M (a + 2) (v1).toNat) then (K1 v2 M) else (bif cmpB .ge v3 400 then (K1 v2 M) else (bif inB v3 400 then (bif cmpB .ge (M (a + 3) (v3).toNat) 1008 then (law_holds_J94 a v1 (law_holds_L19 a v1 K1 n) K1 v2 v3 (M (a + 3) (v3).toNat) M) else (bif cmpB .ge v2 32 then (law_holds_J94 a v1 (law_holds_L19 a v1 K1 n) K1 v2 v3 (M (a + 3) (v3).toNat) M) else (bif cmpB .ge (M (a + 3) (v3).toNat) 1000 then (bif inB ((M (a + 3) (v3).toNat) - 1000) 8 then (bif inB v2 32 then (sM (mU M (a + 5) (v2).toNat (M (a + 4) (((M (a + 3) (v3).toNat) - 1000)).toNat)) fun M_8 => (law_holds_L19 a v1 K1 n (v2 + 1) (v3 + 1) M_8)) else none) else none) else (bif inB v2 32 then (sM (mU M (a + 5) (v2).toNat (M (a + 3) (v3).toNat)) fun M_10 => (law_holds_L19 a v1 K1 n (v2 + 1) (v3 + 1) M_10)) else none)))) else none))) else none)
set_option maxRecDepth 4000 in
theorem law_holds_L19_ok {Z : Nat × (Nat → Int)} {d : Nat} (hd : 1 ≤ d) {a : Nat} (ha : isLaw a) {v1 : Int} {K1 : Int → MM → OR} {res : AR × MM} (k1 : ∀ (x2 : Int) (M : MM) (j1 j3 j4 : AV), K1 x2 M = some res → EX Z d 25 177 [vR a, j1, vI x2, j3, j4] [] M res) : ∀ (n : Nat) (v2 v3 : Int) (M : MM) (j4 : AV), law_holds_L19 a v1 K1 n v2 v3 M = some res → EX Z d 25 19 [vR a, vI v1, vI v2, vI v3, j4] [] M res := by
  obtain ⟨e9, rfl⟩ : ∃ e9, d = e9 + 1 := ⟨d - 1, by omega⟩
  intro n
  induction n with
  | zero =>
    intro v2 v3 M j4 hf
    unfold law_holds_L19 at hf
    cases hf
  | succ n ih =>
    intro v2 v3 M j4 hf
    unfold law_holds_L19 at hf
    refine ex_pu (ls' := [vR a, vI v1, vI v2, vI v3, j4]) (st' := [vI v3]) (dg dc25 13 rfl) rfl rfl ?_
    refine ex_pu (ls' := [vR a, vI v1, vI v2, vI v3, j4]) (st' := [vR a, vI v3]) (dg dc25 14 rfl) rfl rfl ?_
    refine ex_getO (dg dc25 15 rfl) rfl (locLaw0 ha) rfl ?_
    show EX Z _ 25 _ [vR a, vI v1, vI v2, vI v3, j4] [vR (a + 2), vI v3] _ _
    refine ex_pu (ls' := [vR a, vI v1, vI v2, vI v3, j4]) (st' := [vI v1, vR (a + 2), vI v3]) (dg dc25 16 rfl) rfl rfl ?_
    refine ex_iald (dg dc25 17 rfl) (locLaw2 ha) rfl hf (fun _ hf => ?_)
    refine ex_icmp (t := 177) (dg dc25 18 rfl) rfl hf (fun _ hf => ?_) (fun _ hf => ?_)
    · exact k1 v2 M _ _ _ hf
    · refine ex_pu (ls' := [vR a, vI v1, vI v2, vI v3, j4]) (st' := [vI v3]) (dg dc25 19 rfl) rfl rfl ?_
      refine ex_pu (ls' := [vR a, vI v1, vI v2, vI v3, j4]) (st' := [vI 400, vI v3]) (dg dc25 20 rfl) rfl rfl ?_
      refine ex_icmp (t := 177) (dg dc25 21 rfl) rfl hf (fun _ hf => ?_) (fun _ hf => ?_)
      · exact k1 v2 M _ _ _ hf
      · refine ex_pu (ls' := [vR a, vI v1, vI v2, vI v3, j4]) (st' := [vR a]) (dg dc25 22 rfl) rfl rfl ?_
        refine ex_getO (dg dc25 23 rfl) rfl (locLaw0 ha) rfl ?_
        show EX Z _ 25 _ [vR a, vI v1, vI v2, vI v3, j4] [vR (a + 3)] _ _
        refine ex_pu (ls' := [vR a, vI v1, vI v2, vI v3, j4]) (st' := [vI v3, vR (a + 3)]) (dg dc25 24 rfl) rfl rfl ?_
        refine ex_iald (dg dc25 25 rfl) (locLaw3 ha) rfl hf (fun _ hf => ?_)
        refine ex_pu (ls' := [vR a, vI v1, vI v2, vI v3, vI (M (a + 3) (v3).toNat)]) (st' := []) (dg dc25 26 rfl) rfl rfl ?_
        refine ex_pu (ls' := [vR a, vI v1, vI v2, vI v3, vI (M (a + 3) (v3).toNat)]) (st' := [vI (M (a + 3) (v3).toNat)]) (dg dc25 27 rfl) rfl rfl ?_
        refine ex_pu (ls' := [vR a, vI v1, vI v2, vI v3, vI (M (a + 3) (v3).toNat)]) (st' := [vI 1008, vI (M (a + 3) (v3).toNat)]) (dg dc25 28 rfl) rfl rfl ?_
        refine ex_icmp (t := 94) (dg dc25 29 rfl) rfl hf (fun _ hf => ?_) (fun _ hf => ?_)
        · exact law_holds_J94_ok hd ha ih k1 v2 v3 (M (a + 3) (v3).toNat) M hf
        · refine ex_pu (ls' := [vR a, vI v1, vI v2, vI v3, vI (M (a + 3) (v3).toNat)]) (st' := [vI v2]) (dg dc25 30 rfl) rfl rfl ?_
          refine ex_pu (ls' := [vR a, vI v1, vI v2, vI v3, vI (M (a + 3) (v3).toNat)]) (st' := [vI 32, vI v2]) (dg dc25 31 rfl) rfl rfl ?_
          refine ex_icmp (t := 94) (dg dc25 32 rfl) rfl hf (fun _ hf => ?_) (fun _ hf => ?_)
          · exact law_holds_J94_ok hd ha ih k1 v2 v3 (M (a + 3) (v3).toNat) M hf
          · refine ex_pu (ls' := [vR a, vI v1, vI v2, vI v3, vI (M (a + 3) (v3).toNat)]) (st' := [vR a]) (dg dc25 33 rfl) rfl rfl ?_
            refine ex_getO (dg dc25 34 rfl) rfl (locLaw0 ha) rfl ?_
            show EX Z _ 25 _ [vR a, vI v1, vI v2, vI v3, vI (M (a + 3) (v3).toNat)] [vR (a + 5)] _ _
            refine ex_pu (ls' := [vR a, vI v1, vI v2, vI v3, vI (M (a + 3) (v3).toNat)]) (st' := [vI v2, vR (a + 5)]) (dg dc25 35 rfl) rfl rfl ?_
            refine ex_pu (ls' := [vR a, vI v1, vI v2, vI v3, vI (M (a + 3) (v3).toNat)]) (st' := [vI (M (a + 3) (v3).toNat), vI v2, vR (a + 5)]) (dg dc25 36 rfl) rfl rfl ?_
            refine ex_pu (ls' := [vR a, vI v1, vI v2, vI v3, vI (M (a + 3) (v3).toNat)]) (st' := [vI 1000, vI (M (a + 3) (v3).toNat), vI v2, vR (a + 5)]) (dg dc25 37 rfl) rfl rfl ?_
            refine ex_icmp (t := 76) (dg dc25 38 rfl) rfl hf (fun _ hf => ?_) (fun _ hf => ?_)
            · refine ex_pu (ls' := [vR a, vI v1, vI v2, vI v3, vI (M (a + 3) (v3).toNat)]) (st' := [vR a, vI v2, vR (a + 5)]) (dg dc25 41 rfl) rfl rfl ?_
              refine ex_getO (dg dc25 42 rfl) rfl (locLaw0 ha) rfl ?_
              show EX Z _ 25 _ [vR a, vI v1, vI v2, vI v3, vI (M (a + 3) (v3).toNat)] [vR (a + 4), vI v2, vR (a + 5)] _ _
              refine ex_pu (ls' := [vR a, vI v1, vI v2, vI v3, vI (M (a + 3) (v3).toNat)]) (st' := [vI (M (a + 3) (v3).toNat), vR (a + 4), vI v2, vR (a + 5)]) (dg dc25 43 rfl) rfl rfl ?_
              refine ex_pu (ls' := [vR a, vI v1, vI v2, vI v3, vI (M (a + 3) (v3).toNat)]) (st' := [vI 1000, vI (M (a + 3) (v3).toNat), vR (a + 4), vI v2, vR (a + 5)]) (dg dc25 44 rfl) rfl rfl ?_
              refine ex_pu (ls' := [vR a, vI v1, vI v2, vI v3, vI (M (a + 3) (v3).toNat)]) (st' := [vI ((M (a + 3) (v3).toNat) - 1000), vR (a + 4), vI v2, vR (a + 5)]) (dg dc25 45 rfl) rfl rfl ?_
              refine ex_iald (dg dc25 46 rfl) (locLaw4 ha) rfl hf (fun _ hf => ?_)
              refine ex_iast (dg dc25 47 rfl) (locLaw5 ha) rfl (ne17_Law_5 ha) hf (fun _ hf => ?_)
              refine ex_gen hf (fun M_8 hM_9 hf => ?_)
              refine ex_pu (ls' := [vR a, vI v1, vI (v2 + 1), vI v3, vI (M (a + 3) (v3).toNat)]) (st' := []) (dg dc25 48 rfl) rfl rfl ?_
              refine ex_goto (t := 171) (dg dc25 49 rfl) rfl rfl ?_
              refine ex_pu (ls' := [vR a, vI v1, vI (v2 + 1), vI (v3 + 1), vI (M (a + 3) (v3).toNat)]) (st' := []) (dg dc25 96 rfl) rfl rfl ?_
              refine ex_goto (t := 19) (dg dc25 97 rfl) rfl rfl ?_
              exact ih (v2 + 1) (v3 + 1) M_8 _ hf
            · refine ex_pu (ls' := [vR a, vI v1, vI v2, vI v3, vI (M (a + 3) (v3).toNat)]) (st' := [vI (M (a + 3) (v3).toNat), vI v2, vR (a + 5)]) (dg dc25 39 rfl) rfl rfl ?_
              refine ex_goto (t := 87) (dg dc25 40 rfl) rfl rfl ?_
              refine ex_iast (dg dc25 47 rfl) (locLaw5 ha) rfl (ne17_Law_5 ha) hf (fun _ hf => ?_)
              refine ex_gen hf (fun M_10 hM_11 hf => ?_)
              refine ex_pu (ls' := [vR a, vI v1, vI (v2 + 1), vI v3, vI (M (a + 3) (v3).toNat)]) (st' := []) (dg dc25 48 rfl) rfl rfl ?_
              refine ex_goto (t := 171) (dg dc25 49 rfl) rfl rfl ?_
              refine ex_pu (ls' := [vR a, vI v1, vI (v2 + 1), vI (v3 + 1), vI (M (a + 3) (v3).toNat)]) (st' := []) (dg dc25 96 rfl) rfl rfl ?_
              refine ex_goto (t := 19) (dg dc25 97 rfl) rfl rfl ?_
              exact ih (v2 + 1) (v3 + 1) M_10 _ hf
def law_holds_J18 (a : Nat)  (v1 v2 s0 : Int) (M : MM) : OR :=
  (law_holds_L19 a v1 (fun v2_12 M_13 => (bif cmpB .eq v2_12 0 then some (rI 1, M_13) else (bif inB 0 32 then (bif cmpB .eq (M_13 (a + 5) 0) 0 then some (rI 0, M_13) else some (rI 1, M_13)) else none))) FU v2 s0 M)
set_option maxRecDepth 4000 in
theorem law_holds_J18_ok {Z : Nat × (Nat → Int)} {d : Nat} (hd : 1 ≤ d) {a : Nat} (ha : isLaw a)  {res : AR × MM}  : ∀ (v1 v2 s0 : Int) (M : MM) (j3 j4 : AV), law_holds_J18 a  v1 v2 s0 M = some res → EX Z d 25 18 [vR a, vI v1, vI v2, j3, j4] [vI s0] M res := by
  obtain ⟨e9, rfl⟩ : ∃ e9, d = e9 + 1 := ⟨d - 1, by omega⟩
  intro v1 v2 s0 M j3 j4 hf
  unfold law_holds_J18 at hf
  refine ex_pu (ls' := [vR a, vI v1, vI v2, vI s0, j4]) (st' := []) (dg dc25 12 rfl) rfl rfl ?_
  refine law_holds_L19_ok hd ha ?_ FU v2 s0 M _ hf
  · intro v2_12 M_13 j1_14 j3_15 j4_16 hf
    refine ex_pu (ls' := [vR a, j1_14, vI v2_12, j3_15, j4_16]) (st' := [vI v2_12]) (dg dc25 98 rfl) rfl rfl ?_
    refine ex_if (t := 190) (dg dc25 99 rfl) rfl hf (fun _ hf => ?_) (fun _ hf => ?_)
    · refine ex_pu (ls' := [vR a, j1_14, vI v2_12, j3_15, j4_16]) (st' := [vI 1]) (dg dc25 105 rfl) rfl rfl ?_
      refine ex_goto (t := 195) (dg dc25 106 rfl) rfl rfl ?_
      exact ex_ire (dg dc25 108 rfl) rfl hf
    · refine ex_pu (ls' := [vR a, j1_14, vI v2_12, j3_15, j4_16]) (st' := [vR a]) (dg dc25 100 rfl) rfl rfl ?_
      refine ex_getO (dg dc25 101 rfl) rfl (locLaw0 ha) rfl ?_
      show EX Z _ 25 _ [vR a, j1_14, vI v2_12, j3_15, j4_16] [vR (a + 5)] _ _
      refine ex_pu (ls' := [vR a, j1_14, vI v2_12, j3_15, j4_16]) (st' := [vI 0, vR (a + 5)]) (dg dc25 102 rfl) rfl rfl ?_
      refine ex_iald (dg dc25 103 rfl) (locLaw5 ha) rfl hf (fun _ hf => ?_)
      refine ex_if (t := 194) (dg dc25 104 rfl) rfl hf (fun _ hf => ?_) (fun _ hf => ?_)
      · refine ex_pu (ls' := [vR a, j1_14, vI v2_12, j3_15, j4_16]) (st' := [vI 0]) (dg dc25 107 rfl) rfl rfl ?_
        exact ex_ire (dg dc25 108 rfl) rfl hf
      · refine ex_pu (ls' := [vR a, j1_14, vI v2_12, j3_15, j4_16]) (st' := [vI 1]) (dg dc25 105 rfl) rfl rfl ?_
        refine ex_goto (t := 195) (dg dc25 106 rfl) rfl rfl ?_
        exact ex_ire (dg dc25 108 rfl) rfl hf
def law_holds (a : Nat) (v1 : Int) (M : MM) : OR :=
  (bif cmpB .ne v1 0 then (bif inB (v1 - 1) 12 then (law_holds_J18 a  v1 0 (M (a + 2) ((v1 - 1)).toNat) M) else none) else (law_holds_J18 a  v1 0 0 M))
set_option maxRecDepth 4000 in
theorem law_holds_ok {Z : Nat × (Nat → Int)} {d : Nat} (hd : 1 ≤ d) {M : MM} {a : Nat} (ha : isLaw a) {v1 : Int} {res : AR × MM} (hf : law_holds a v1 M = some res) : EX Z d 25 0 (ent 25 [vR a, vI v1]) [] M res := by
  obtain ⟨e9, rfl⟩ : ∃ e9, d = e9 + 1 := ⟨d - 1, by omega⟩
  unfold law_holds at hf
  show EX Z _ 25 0 [vR a, vI v1, vU, vU, vU] [] M res
  refine ex_pu (ls' := [vR a, vI v1, vU, vU, vU]) (st' := [vI 0]) (dg dc25 0 rfl) rfl rfl ?_
  refine ex_pu (ls' := [vR a, vI v1, vI 0, vU, vU]) (st' := []) (dg dc25 1 rfl) rfl rfl ?_
  refine ex_pu (ls' := [vR a, vI v1, vI 0, vU, vU]) (st' := [vI v1]) (dg dc25 2 rfl) rfl rfl ?_
  refine ex_if (t := 10) (dg dc25 3 rfl) rfl hf (fun _ hf => ?_) (fun _ hf => ?_)
  · refine ex_pu (ls' := [vR a, vI v1, vI 0, vU, vU]) (st' := [vR a]) (dg dc25 6 rfl) rfl rfl ?_
    refine ex_getO (dg dc25 7 rfl) rfl (locLaw0 ha) rfl ?_
    show EX Z _ 25 _ [vR a, vI v1, vI 0, vU, vU] [vR (a + 2)] _ _
    refine ex_pu (ls' := [vR a, vI v1, vI 0, vU, vU]) (st' := [vI v1, vR (a + 2)]) (dg dc25 8 rfl) rfl rfl ?_
    refine ex_pu (ls' := [vR a, vI v1, vI 0, vU, vU]) (st' := [vI 1, vI v1, vR (a + 2)]) (dg dc25 9 rfl) rfl rfl ?_
    refine ex_pu (ls' := [vR a, vI v1, vI 0, vU, vU]) (st' := [vI (v1 - 1), vR (a + 2)]) (dg dc25 10 rfl) rfl rfl ?_
    refine ex_iald (dg dc25 11 rfl) (locLaw2 ha) rfl hf (fun _ hf => ?_)
    exact law_holds_J18_ok hd ha  v1 0 (M (a + 2) ((v1 - 1)).toNat) M _ _ hf
  · refine ex_pu (ls' := [vR a, vI v1, vI 0, vU, vU]) (st' := [vI 0]) (dg dc25 4 rfl) rfl rfl ?_
    refine ex_goto (t := 18) (dg dc25 5 rfl) rfl rfl ?_
    exact law_holds_J18_ok hd ha  v1 0 0 M _ _ hf
-- GlassHill$LawReader.isTooDeep
def il33 : List (Nat × Instr × Nat) := [(0, .iload_n 1, 1), (1, .bipush 6, 2), (3, .if_icmp .ge 5, 3), (6, .iconst 0, 1), (7, .ireturn, 1), (8, .aload_n 0, 1), (9, .getfield 9, 3), (12, .aload_n 0, 1), (13, .getfield 9, 3), (16, .getfield 102, 3), (19, .invokevirtual 105, 3), (22, .iconst 1, 1), (23, .ireturn, 1)]
theorem dc33 : dcs (mC 33) il33 := dc_of (by decide +kernel)
def lawr_isTooDeep (v1 : Int) (M : MM) : OR :=
  (bif cmpB .ge v1 6 then (bV (tape_failAt (M 1 3) M) fun M_2 => some (rI 1, M_2)) else some (rI 0, M))
set_option maxRecDepth 4000 in
theorem lawr_isTooDeep_ok {Z : Nat × (Nat → Int)} {d : Nat} (hd : 1 ≤ d) {M : MM}  {v1 : Int} {res : AR × MM} (hf : lawr_isTooDeep v1 M = some res) : EX Z d 33 0 (ent 33 [vR 82, vI v1]) [] M res := by
  obtain ⟨e9, rfl⟩ : ∃ e9, d = e9 + 1 := ⟨d - 1, by omega⟩
  unfold lawr_isTooDeep at hf
  show EX Z _ 33 0 [vR 82, vI v1] [] M res
  refine ex_pu (ls' := [vR 82, vI v1]) (st' := [vI v1]) (dg dc33 0 rfl) rfl rfl ?_
  refine ex_pu (ls' := [vR 82, vI v1]) (st' := [vI 6, vI v1]) (dg dc33 1 rfl) rfl rfl ?_
  refine ex_icmp (t := 8) (dg dc33 2 rfl) rfl hf (fun _ hf => ?_) (fun _ hf => ?_)
  · refine ex_pu (ls' := [vR 82, vI v1]) (st' := [vR 82]) (dg dc33 5 rfl) rfl rfl ?_
    refine ex_getF (dg dc33 6 rfl) rfl (LOC.st (Nat.le_of_ble_eq_true rfl) rfl) rfl ?_
    refine ex_pu (ls' := [vR 82, vI v1]) (st' := [vR 82, vR 1]) (dg dc33 7 rfl) rfl rfl ?_
    refine ex_getF (dg dc33 8 rfl) rfl (LOC.st (Nat.le_of_ble_eq_true rfl) rfl) rfl ?_
    refine ex_getI (dg dc33 9 rfl) rfl (LOC.st (Nat.le_of_ble_eq_true rfl) rfl) rfl ?_
    refine ex_cV (vs := [vR 1, vI (M 1 3)]) (st' := []) (F := (tape_failAt (M 1 3) M)) (Or.inr (Or.inl ⟨rfl, (dg dc33 10 rfl)⟩)) rfl rfl (rk1 (LOC.st (Nat.le_of_ble_eq_true rfl) rfl) rfl) rfl (fun _ r9 => tape_failAt_ok (Z := Z) (d := e9) (by omega)  r9) hf (fun M_2 he_1 hf => ?_)
    refine ex_pu (ls' := [vR 82, vI v1]) (st' := [vI 1]) (dg dc33 11 rfl) rfl rfl ?_
    exact ex_ire (dg dc33 12 rfl) rfl hf
  · refine ex_pu (ls' := [vR 82, vI v1]) (st' := [vI 0]) (dg dc33 3 rfl) rfl rfl ?_
    exact ex_ire (dg dc33 4 rfl) rfl hf
-- GlassHill$Riddles.orderOn
def il42 : List (Nat × Instr × Nat) := [(0, .iload 4, 2), (2, .aload_n 0, 1), (3, .getfield 34, 3), (6, .if_icmp .lt 4, 3), (9, .return_, 1), (10, .iload_n 2, 1), (11, .ifCond .eq 9, 3), (14, .iload_n 1, 1), (15, .bipush 7, 2), (17, .if_icmp .lt 21, 3), (20, .aload_n 0, 1), (21, .iload 4, 2), (23, .putfield 34, 3), (26, .aload_n 0, 1), (27, .getfield 9, 3), (30, .aload_n 0, 1), (31, .getfield 15, 3), (34, .invokestatic 53, 3), (37, .return_, 1), (38, .iconst 0, 1), (39, .istore 5, 2), (41, .iload 5, 2), (43, .bipush 7, 2), (45, .if_icmp .ge 91, 3), (48, .iload_n 2, 1), (49, .iload 5, 2), (51, .invokestatic 59, 3), (54, .iconst 1, 1), (55, .if_icmp .ne 75, 3), (58, .iload_n 3, 1), (59, .aload_n 0, 1), (60, .getfield 25, 3), (63, .getfield 63, 3), (66, .iload 5, 2), (68, .iaload, 1), (69, .aload_n 0, 1), (70, .getfield 21, 3), (73, .getfield 66, 3), (76, .iload 5, 2), (78, .iaload, 1), (79, .iadd, 1), (80, .invokestatic 69, 3), (83, .istore 6, 2), (85, .aload_n 0, 1), (86, .getfield 9, 3), (89, .iload_n 1, 1), (90, .iload 5, 2), (92, .iastore, 1), (93, .aload_n 0, 1), (94, .iload_n 1, 1), (95, .iconst 1, 1), (96, .iadd, 1), (97, .iload_n 2, 1), (98, .iconst 1, 1), (99, .iload 5, 2), (101, .ishl, 1), (102, .iconst (-1), 1), (103, .ixor, 1), (104, .iand, 1), (105, .iload 6, 2), (107, .iconst 1, 1), (108, .iadd, 1), (109, .iload 4, 2), (111, .iload 6, 2), (113, .aload_n 0, 1), (114, .getfield 21, 3), (117, .getfield 74, 3), (120, .iload 5, 2), (122, .iaload, 1), (123, .isub, 1), (124, .invokestatic 69, 3), (127, .invokevirtual 49, 3), (130, .iinc 5 1, 3), (133, .goto (-92), 3), (136, .return_, 1)]
theorem dc42 : dcs (mC 42) il42 := dc_of (by decide +kernel)
def ridd_orderOn_L41 (R : Int → Int → Int → Int → MM → OR)  (v1 v2 v3 v4 : Int) (K1 : MM → OR) : Nat → Int → MM → OR
  | 0, _, _ => none
  | n + 1, v5, M => (bif cmpB .ge v5 7 then (K1  M) else (bI (gh_bit v2 v5 M) fun z_8 M_7 => (bif cmpB .ne z_8 1 then (ridd_orderOn_L41 R v1 v2 v3 v4 K1 n (v5 + 1) M_7) else (bif inB v5 7 then (bif inB v5 7 then (bif inB v1 7 then (sM (mU M_7 162 (v1).toNat v5) fun M_9 => (bif inB v5 7 then (bV (R (v1 + 1) (iAnd v2 (iXor (iShl 1 v5) (-1))) ((imax v3 ((M_7 25 (v5).toNat) + (M_7 15 (v5).toNat))) + 1) (imax v4 ((imax v3 ((M_7 25 (v5).toNat) + (M_7 15 (v5).toNat))) - (M_9 16 (v5).toNat))) M_9) fun M_12 => (ridd_orderOn_L41 R v1 v2 v3 v4 K1 n (v5 + 1) M_12)) else none)) else none) else none) else none))))
set_option maxRecDepth 4000 in
theorem ridd_orderOn_L41_ok {Z : Nat × (Nat → Int)} {d : Nat} (hd : 1 ≤ d)  {E9 : Nat} (hE : E9 + 1 ≤ d) {R : Int → Int → Int → Int → MM → OR} (hR : ∀ {e : Nat}, E9 ≤ e → ∀ {u0 u1 u2 u3 : Int} {M : MM} {r : AR × MM}, R u0 u1 u2 u3 M = some r → EX Z e 42 0 (ent 42 [vR 161, vI u0, vI u1, vI u2, vI u3]) [] M r) {v1 v2 v3 v4 : Int} {K1 : MM → OR} {res : AR × MM} (k1 : ∀ (M : MM) (j0 j1 j2 j3 j4 j5 j6 : AV), K1  M = some res → EX Z d 42 136 [j0, j1, j2, j3, j4, j5, j6] [] M res) : ∀ (n : Nat) (v5 : Int) (M : MM) (j6 : AV), ridd_orderOn_L41 R v1 v2 v3 v4 K1 n v5 M = some res → EX Z d 42 41 [vR 161, vI v1, vI v2, vI v3, vI v4, vI v5, j6] [] M res := by
  obtain ⟨e9, rfl⟩ : ∃ e9, d = e9 + 1 := ⟨d - 1, by omega⟩
  intro n
  induction n with
  | zero =>
    intro v5 M j6 hf
    unfold ridd_orderOn_L41 at hf
    cases hf
  | succ n ih =>
    intro v5 M j6 hf
    unfold ridd_orderOn_L41 at hf
    refine ex_pu (ls' := [vR 161, vI v1, vI v2, vI v3, vI v4, vI v5, j6]) (st' := [vI v5]) (dg dc42 21 rfl) rfl rfl ?_
    refine ex_pu (ls' := [vR 161, vI v1, vI v2, vI v3, vI v4, vI v5, j6]) (st' := [vI 7, vI v5]) (dg dc42 22 rfl) rfl rfl ?_
    refine ex_icmp (t := 136) (dg dc42 23 rfl) rfl hf (fun _ hf => ?_) (fun _ hf => ?_)
    · exact k1  M _ _ _ _ _ _ _ hf
    · refine ex_pu (ls' := [vR 161, vI v1, vI v2, vI v3, vI v4, vI v5, j6]) (st' := [vI v2]) (dg dc42 24 rfl) rfl rfl ?_
      refine ex_pu (ls' := [vR 161, vI v1, vI v2, vI v3, vI v4, vI v5, j6]) (st' := [vI v5, vI v2]) (dg dc42 25 rfl) rfl rfl ?_
      refine ex_cI (vs := [vI v2, vI v5]) (st' := []) (F := (gh_bit v2 v5 M)) (Or.inl ⟨rfl, (dg dc42 26 rfl)⟩) rfl rfl (Or.inl rfl) rfl (fun _ r9 => gh_bit_ok (Z := Z) (d := e9) (by omega)  r9) hf (fun z_8 M_7 he_6 hf => ?_)
      refine ex_pu (ls' := [vR 161, vI v1, vI v2, vI v3, vI v4, vI v5, j6]) (st' := [vI 1, vI z_8]) (dg dc42 27 rfl) rfl rfl ?_
      refine ex_icmp (t := 130) (dg dc42 28 rfl) rfl hf (fun _ hf => ?_) (fun _ hf => ?_)
      · refine ex_pu (ls' := [vR 161, vI v1, vI v2, vI v3, vI v4, vI (v5 + 1), j6]) (st' := []) (dg dc42 72 rfl) rfl rfl ?_
        refine ex_goto (t := 41) (dg dc42 73 rfl) rfl rfl ?_
        exact ih (v5 + 1) M_7 _ hf
      · refine ex_pu (ls' := [vR 161, vI v1, vI v2, vI v3, vI v4, vI v5, j6]) (st' := [vI v3]) (dg dc42 29 rfl) rfl rfl ?_
        refine ex_pu (ls' := [vR 161, vI v1, vI v2, vI v3, vI v4, vI v5, j6]) (st' := [vR 161, vI v3]) (dg dc42 30 rfl) rfl rfl ?_
        refine ex_getF (dg dc42 31 rfl) rfl (LOC.st (Nat.le_of_ble_eq_true rfl) rfl) rfl ?_
        refine ex_getO (dg dc42 32 rfl) rfl (LOC.st (Nat.le_of_ble_eq_true rfl) rfl) rfl ?_
        show EX Z _ 42 _ [vR 161, vI v1, vI v2, vI v3, vI v4, vI v5, j6] [vR 25, vI v3] _ _
        refine ex_pu (ls' := [vR 161, vI v1, vI v2, vI v3, vI v4, vI v5, j6]) (st' := [vI v5, vR 25, vI v3]) (dg dc42 33 rfl) rfl rfl ?_
        refine ex_iald (dg dc42 34 rfl) (LOC.st (Nat.le_of_ble_eq_true rfl) rfl) rfl hf (fun _ hf => ?_)
        refine ex_pu (ls' := [vR 161, vI v1, vI v2, vI v3, vI v4, vI v5, j6]) (st' := [vR 161, vI (M_7 25 (v5).toNat), vI v3]) (dg dc42 35 rfl) rfl rfl ?_
        refine ex_getF (dg dc42 36 rfl) rfl (LOC.st (Nat.le_of_ble_eq_true rfl) rfl) rfl ?_
        refine ex_getO (dg dc42 37 rfl) rfl (LOC.st (Nat.le_of_ble_eq_true rfl) rfl) rfl ?_
        show EX Z _ 42 _ [vR 161, vI v1, vI v2, vI v3, vI v4, vI v5, j6] [vR 15, vI (M_7 25 (v5).toNat), vI v3] _ _
        refine ex_pu (ls' := [vR 161, vI v1, vI v2, vI v3, vI v4, vI v5, j6]) (st' := [vI v5, vR 15, vI (M_7 25 (v5).toNat), vI v3]) (dg dc42 38 rfl) rfl rfl ?_
        refine ex_iald (dg dc42 39 rfl) (LOC.st (Nat.le_of_ble_eq_true rfl) rfl) rfl hf (fun _ hf => ?_)
        refine ex_pu (ls' := [vR 161, vI v1, vI v2, vI v3, vI v4, vI v5, j6]) (st' := [vI ((M_7 25 (v5).toNat) + (M_7 15 (v5).toNat)), vI v3]) (dg dc42 40 rfl) rfl rfl ?_
        refine ex_max (dg dc42 41 rfl) rfl rfl ?_
        refine ex_pu (ls' := [vR 161, vI v1, vI v2, vI v3, vI v4, vI v5, vI (imax v3 ((M_7 25 (v5).toNat) + (M_7 15 (v5).toNat)))]) (st' := []) (dg dc42 42 rfl) rfl rfl ?_
        refine ex_pu (ls' := [vR 161, vI v1, vI v2, vI v3, vI v4, vI v5, vI (imax v3 ((M_7 25 (v5).toNat) + (M_7 15 (v5).toNat)))]) (st' := [vR 161]) (dg dc42 43 rfl) rfl rfl ?_
        refine ex_getO (dg dc42 44 rfl) rfl (LOC.st (Nat.le_of_ble_eq_true rfl) rfl) rfl ?_
        show EX Z _ 42 _ [vR 161, vI v1, vI v2, vI v3, vI v4, vI v5, vI (imax v3 ((M_7 25 (v5).toNat) + (M_7 15 (v5).toNat)))] [vR 162] _ _
        refine ex_pu (ls' := [vR 161, vI v1, vI v2, vI v3, vI v4, vI v5, vI (imax v3 ((M_7 25 (v5).toNat) + (M_7 15 (v5).toNat)))]) (st' := [vI v1, vR 162]) (dg dc42 45 rfl) rfl rfl ?_
        refine ex_pu (ls' := [vR 161, vI v1, vI v2, vI v3, vI v4, vI v5, vI (imax v3 ((M_7 25 (v5).toNat) + (M_7 15 (v5).toNat)))]) (st' := [vI v5, vI v1, vR 162]) (dg dc42 46 rfl) rfl rfl ?_
        refine ex_iast (dg dc42 47 rfl) (LOC.st (Nat.le_of_ble_eq_true rfl) rfl) rfl rfl hf (fun _ hf => ?_)
        refine ex_gen hf (fun M_9 hM_10 hf => ?_)
        refine ex_pu (ls' := [vR 161, vI v1, vI v2, vI v3, vI v4, vI v5, vI (imax v3 ((M_7 25 (v5).toNat) + (M_7 15 (v5).toNat)))]) (st' := [vR 161]) (dg dc42 48 rfl) rfl rfl ?_
        refine ex_pu (ls' := [vR 161, vI v1, vI v2, vI v3, vI v4, vI v5, vI (imax v3 ((M_7 25 (v5).toNat) + (M_7 15 (v5).toNat)))]) (st' := [vI v1, vR 161]) (dg dc42 49 rfl) rfl rfl ?_
        refine ex_pu (ls' := [vR 161, vI v1, vI v2, vI v3, vI v4, vI v5, vI (imax v3 ((M_7 25 (v5).toNat) + (M_7 15 (v5).toNat)))]) (st' := [vI 1, vI v1, vR 161]) (dg dc42 50 rfl) rfl rfl ?_
        refine ex_pu (ls' := [vR 161, vI v1, vI v2, vI v3, vI v4, vI v5, vI (imax v3 ((M_7 25 (v5).toNat) + (M_7 15 (v5).toNat)))]) (st' := [vI (v1 + 1), vR 161]) (dg dc42 51 rfl) rfl rfl ?_
        refine ex_pu (ls' := [vR 161, vI v1, vI v2, vI v3, vI v4, vI v5, vI (imax v3 ((M_7 25 (v5).toNat) + (M_7 15 (v5).toNat)))]) (st' := [vI v2, vI (v1 + 1), vR 161]) (dg dc42 52 rfl) rfl rfl ?_
        refine ex_pu (ls' := [vR 161, vI v1, vI v2, vI v3, vI v4, vI v5, vI (imax v3 ((M_7 25 (v5).toNat) + (M_7 15 (v5).toNat)))]) (st' := [vI 1, vI v2, vI (v1 + 1), vR 161]) (dg dc42 53 rfl) rfl rfl ?_
        refine ex_pu (ls' := [vR 161, vI v1, vI v2, vI v3, vI v4, vI v5, vI (imax v3 ((M_7 25 (v5).toNat) + (M_7 15 (v5).toNat)))]) (st' := [vI v5, vI 1, vI v2, vI (v1 + 1), vR 161]) (dg dc42 54 rfl) rfl rfl ?_
        refine ex_pu (ls' := [vR 161, vI v1, vI v2, vI v3, vI v4, vI v5, vI (imax v3 ((M_7 25 (v5).toNat) + (M_7 15 (v5).toNat)))]) (st' := [vI (iShl 1 v5), vI v2, vI (v1 + 1), vR 161]) (dg dc42 55 rfl) rfl rfl ?_
        refine ex_pu (ls' := [vR 161, vI v1, vI v2, vI v3, vI v4, vI v5, vI (imax v3 ((M_7 25 (v5).toNat) + (M_7 15 (v5).toNat)))]) (st' := [vI (-1), vI (iShl 1 v5), vI v2, vI (v1 + 1), vR 161]) (dg dc42 56 rfl) rfl rfl ?_
        refine ex_pu (ls' := [vR 161, vI v1, vI v2, vI v3, vI v4, vI v5, vI (imax v3 ((M_7 25 (v5).toNat) + (M_7 15 (v5).toNat)))]) (st' := [vI (iXor (iShl 1 v5) (-1)), vI v2, vI (v1 + 1), vR 161]) (dg dc42 57 rfl) rfl rfl ?_
        refine ex_pu (ls' := [vR 161, vI v1, vI v2, vI v3, vI v4, vI v5, vI (imax v3 ((M_7 25 (v5).toNat) + (M_7 15 (v5).toNat)))]) (st' := [vI (iAnd v2 (iXor (iShl 1 v5) (-1))), vI (v1 + 1), vR 161]) (dg dc42 58 rfl) rfl rfl ?_
        refine ex_pu (ls' := [vR 161, vI v1, vI v2, vI v3, vI v4, vI v5, vI (imax v3 ((M_7 25 (v5).toNat) + (M_7 15 (v5).toNat)))]) (st' := [vI (imax v3 ((M_7 25 (v5).toNat) + (M_7 15 (v5).toNat))), vI (iAnd v2 (iXor (iShl 1 v5) (-1))), vI (v1 + 1), vR 161]) (dg dc42 59 rfl) rfl rfl ?_
        refine ex_pu (ls' := [vR 161, vI v1, vI v2, vI v3, vI v4, vI v5, vI (imax v3 ((M_7 25 (v5).toNat) + (M_7 15 (v5).toNat)))]) (st' := [vI 1, vI (imax v3 ((M_7 25 (v5).toNat) + (M_7 15 (v5).toNat))), vI (iAnd v2 (iXor (iShl 1 v5) (-1))), vI (v1 + 1), vR 161]) (dg dc42 60 rfl) rfl rfl ?_
        refine ex_pu (ls' := [vR 161, vI v1, vI v2, vI v3, vI v4, vI v5, vI (imax v3 ((M_7 25 (v5).toNat) + (M_7 15 (v5).toNat)))]) (st' := [vI ((imax v3 ((M_7 25 (v5).toNat) + (M_7 15 (v5).toNat))) + 1), vI (iAnd v2 (iXor (iShl 1 v5) (-1))), vI (v1 + 1), vR 161]) (dg dc42 61 rfl) rfl rfl ?_
        refine ex_pu (ls' := [vR 161, vI v1, vI v2, vI v3, vI v4, vI v5, vI (imax v3 ((M_7 25 (v5).toNat) + (M_7 15 (v5).toNat)))]) (st' := [vI v4, vI ((imax v3 ((M_7 25 (v5).toNat) + (M_7 15 (v5).toNat))) + 1), vI (iAnd v2 (iXor (iShl 1 v5) (-1))), vI (v1 + 1), vR 161]) (dg dc42 62 rfl) rfl rfl ?_
        refine ex_pu (ls' := [vR 161, vI v1, vI v2, vI v3, vI v4, vI v5, vI (imax v3 ((M_7 25 (v5).toNat) + (M_7 15 (v5).toNat)))]) (st' := [vI (imax v3 ((M_7 25 (v5).toNat) + (M_7 15 (v5).toNat))), vI v4, vI ((imax v3 ((M_7 25 (v5).toNat) + (M_7 15 (v5).toNat))) + 1), vI (iAnd v2 (iXor (iShl 1 v5) (-1))), vI (v1 + 1), vR 161]) (dg dc42 63 rfl) rfl rfl ?_
        refine ex_pu (ls' := [vR 161, vI v1, vI v2, vI v3, vI v4, vI v5, vI (imax v3 ((M_7 25 (v5).toNat) + (M_7 15 (v5).toNat)))]) (st' := [vR 161, vI (imax v3 ((M_7 25 (v5).toNat) + (M_7 15 (v5).toNat))), vI v4, vI ((imax v3 ((M_7 25 (v5).toNat) + (M_7 15 (v5).toNat))) + 1), vI (iAnd v2 (iXor (iShl 1 v5) (-1))), vI (v1 + 1), vR 161]) (dg dc42 64 rfl) rfl rfl ?_
        refine ex_getF (dg dc42 65 rfl) rfl (LOC.st (Nat.le_of_ble_eq_true rfl) rfl) rfl ?_
        refine ex_getO (dg dc42 66 rfl) rfl (LOC.st (Nat.le_of_ble_eq_true rfl) rfl) rfl ?_
        show EX Z _ 42 _ [vR 161, vI v1, vI v2, vI v3, vI v4, vI v5, vI (imax v3 ((M_7 25 (v5).toNat) + (M_7 15 (v5).toNat)))] [vR 16, vI (imax v3 ((M_7 25 (v5).toNat) + (M_7 15 (v5).toNat))), vI v4, vI ((imax v3 ((M_7 25 (v5).toNat) + (M_7 15 (v5).toNat))) + 1), vI (iAnd v2 (iXor (iShl 1 v5) (-1))), vI (v1 + 1), vR 161] _ _
        refine ex_pu (ls' := [vR 161, vI v1, vI v2, vI v3, vI v4, vI v5, vI (imax v3 ((M_7 25 (v5).toNat) + (M_7 15 (v5).toNat)))]) (st' := [vI v5, vR 16, vI (imax v3 ((M_7 25 (v5).toNat) + (M_7 15 (v5).toNat))), vI v4, vI ((imax v3 ((M_7 25 (v5).toNat) + (M_7 15 (v5).toNat))) + 1), vI (iAnd v2 (iXor (iShl 1 v5) (-1))), vI (v1 + 1), vR 161]) (dg dc42 67 rfl) rfl rfl ?_
        refine ex_iald (dg dc42 68 rfl) (LOC.st (Nat.le_of_ble_eq_true rfl) rfl) rfl hf (fun _ hf => ?_)
        refine ex_pu (ls' := [vR 161, vI v1, vI v2, vI v3, vI v4, vI v5, vI (imax v3 ((M_7 25 (v5).toNat) + (M_7 15 (v5).toNat)))]) (st' := [vI ((imax v3 ((M_7 25 (v5).toNat) + (M_7 15 (v5).toNat))) - (M_9 16 (v5).toNat)), vI v4, vI ((imax v3 ((M_7 25 (v5).toNat) + (M_7 15 (v5).toNat))) + 1), vI (iAnd v2 (iXor (iShl 1 v5) (-1))), vI (v1 + 1), vR 161]) (dg dc42 69 rfl) rfl rfl ?_
        refine ex_max (dg dc42 70 rfl) rfl rfl ?_
        refine ex_cV (vs := [vR 161, vI (v1 + 1), vI (iAnd v2 (iXor (iShl 1 v5) (-1))), vI ((imax v3 ((M_7 25 (v5).toNat) + (M_7 15 (v5).toNat))) + 1), vI (imax v4 ((imax v3 ((M_7 25 (v5).toNat) + (M_7 15 (v5).toNat))) - (M_9 16 (v5).toNat)))]) (st' := []) (F := (R (v1 + 1) (iAnd v2 (iXor (iShl 1 v5) (-1))) ((imax v3 ((M_7 25 (v5).toNat) + (M_7 15 (v5).toNat))) + 1) (imax v4 ((imax v3 ((M_7 25 (v5).toNat) + (M_7 15 (v5).toNat))) - (M_9 16 (v5).toNat))) M_9)) (Or.inr (Or.inl ⟨rfl, (dg dc42 71 rfl)⟩)) rfl rfl (rk1 (LOC.st (Nat.le_of_ble_eq_true rfl) rfl) rfl) rfl (fun _ r9 => hR (by omega) r9) hf (fun M_12 he_11 hf => ?_)
        refine ex_pu (ls' := [vR 161, vI v1, vI v2, vI v3, vI v4, vI (v5 + 1), vI (imax v3 ((M_7 25 (v5).toNat) + (M_7 15 (v5).toNat)))]) (st' := []) (dg dc42 72 rfl) rfl rfl ?_
        refine ex_goto (t := 41) (dg dc42 73 rfl) rfl rfl ?_
        exact ih (v5 + 1) M_12 _ hf
def ridd_orderOn (R : Int → Int → Int → Int → MM → OR) (v1 : Int) (v2 : Int) (v3 : Int) (v4 : Int) (M : MM) : OR :=
  (bif cmpB .lt v4 (M 161 5) then (bif cmpB .eq v2 0 then (sM (mU M 161 5 v4) fun M_1 => (bV (land_copyRow 162 163 7 M_1) fun M_4 => some (rV, M_4))) else (bif cmpB .lt v1 7 then (ridd_orderOn_L41 R v1 v2 v3 v4 (fun M_14 => some (rV, M_14)) FU 0 M) else (sM (mU M 161 5 v4) fun M_22 => (bV (land_copyRow 162 163 7 M_22) fun M_25 => some (rV, M_25))))) else some (rV, M))
set_option maxRecDepth 4000 in
theorem ridd_orderOn_ok {Z : Nat × (Nat → Int)} {d : Nat} (hd : 1 ≤ d) {E9 : Nat} (hE : E9 + 1 ≤ d) {R : Int → Int → Int → Int → MM → OR} (hR : ∀ {e : Nat}, E9 ≤ e → ∀ {u0 u1 u2 u3 : Int} {M : MM} {r : AR × MM}, R u0 u1 u2 u3 M = some r → EX Z e 42 0 (ent 42 [vR 161, vI u0, vI u1, vI u2, vI u3]) [] M r) {M : MM}  {v1 v2 v3 v4 : Int} {res : AR × MM} (hf : ridd_orderOn R v1 v2 v3 v4 M = some res) : EX Z d 42 0 (ent 42 [vR 161, vI v1, vI v2, vI v3, vI v4]) [] M res := by
  obtain ⟨e9, rfl⟩ : ∃ e9, d = e9 + 1 := ⟨d - 1, by omega⟩
  unfold ridd_orderOn at hf
  show EX Z _ 42 0 [vR 161, vI v1, vI v2, vI v3, vI v4, vU, vU] [] M res
  refine ex_pu (ls' := [vR 161, vI v1, vI v2, vI v3, vI v4, vU, vU]) (st' := [vI v4]) (dg dc42 0 rfl) rfl rfl ?_
  refine ex_pu (ls' := [vR 161, vI v1, vI v2, vI v3, vI v4, vU, vU]) (st' := [vR 161, vI v4]) (dg dc42 1 rfl) rfl rfl ?_
  refine ex_getI (dg dc42 2 rfl) rfl (LOC.st (Nat.le_of_ble_eq_true rfl) rfl) rfl ?_
  refine ex_icmp (t := 10) (dg dc42 3 rfl) rfl hf (fun _ hf => ?_) (fun _ hf => ?_)
  · refine ex_pu (ls' := [vR 161, vI v1, vI v2, vI v3, vI v4, vU, vU]) (st' := [vI v2]) (dg dc42 5 rfl) rfl rfl ?_
    refine ex_if (t := 20) (dg dc42 6 rfl) rfl hf (fun _ hf => ?_) (fun _ hf => ?_)
    · refine ex_pu (ls' := [vR 161, vI v1, vI v2, vI v3, vI v4, vU, vU]) (st' := [vR 161]) (dg dc42 10 rfl) rfl rfl ?_
      refine ex_pu (ls' := [vR 161, vI v1, vI v2, vI v3, vI v4, vU, vU]) (st' := [vI v4, vR 161]) (dg dc42 11 rfl) rfl rfl ?_
      refine ex_putI (dg dc42 12 rfl) rfl (LOC.st (Nat.le_of_ble_eq_true rfl) rfl) rfl rfl rfl ?_
      refine ex_gen hf (fun M_1 hM_2 hf => ?_)
      refine ex_pu (ls' := [vR 161, vI v1, vI v2, vI v3, vI v4, vU, vU]) (st' := [vR 161]) (dg dc42 13 rfl) rfl rfl ?_
      refine ex_getO (dg dc42 14 rfl) rfl (LOC.st (Nat.le_of_ble_eq_true rfl) rfl) rfl ?_
      show EX Z _ 42 _ [vR 161, vI v1, vI v2, vI v3, vI v4, vU, vU] [vR 162] _ _
      refine ex_pu (ls' := [vR 161, vI v1, vI v2, vI v3, vI v4, vU, vU]) (st' := [vR 161, vR 162]) (dg dc42 15 rfl) rfl rfl ?_
      refine ex_getO (dg dc42 16 rfl) rfl (LOC.st (Nat.le_of_ble_eq_true rfl) rfl) rfl ?_
      show EX Z _ 42 _ [vR 161, vI v1, vI v2, vI v3, vI v4, vU, vU] [vR 163, vR 162] _ _
      refine ex_cV (vs := [vR 162, vR 163]) (st' := []) (F := (land_copyRow 162 163 7 M_1)) (Or.inl ⟨rfl, (dg dc42 17 rfl)⟩) rfl rfl (Or.inl rfl) rfl (fun _ r9 => land_copyRow_ok (Z := Z) (d := e9) (LOC.st (Nat.le_of_ble_eq_true rfl) rfl) (LOC.st (Nat.le_of_ble_eq_true rfl) rfl) (by decide) rfl r9) hf (fun M_4 he_3 hf => ?_)
      exact ex_vre (dg dc42 18 rfl) rfl hf
    · refine ex_pu (ls' := [vR 161, vI v1, vI v2, vI v3, vI v4, vU, vU]) (st' := [vI v1]) (dg dc42 7 rfl) rfl rfl ?_
      refine ex_pu (ls' := [vR 161, vI v1, vI v2, vI v3, vI v4, vU, vU]) (st' := [vI 7, vI v1]) (dg dc42 8 rfl) rfl rfl ?_
      refine ex_icmp (t := 38) (dg dc42 9 rfl) rfl hf (fun _ hf => ?_) (fun _ hf => ?_)
      · refine ex_pu (ls' := [vR 161, vI v1, vI v2, vI v3, vI v4, vU, vU]) (st' := [vI 0]) (dg dc42 19 rfl) rfl rfl ?_
        refine ex_pu (ls' := [vR 161, vI v1, vI v2, vI v3, vI v4, vI 0, vU]) (st' := []) (dg dc42 20 rfl) rfl rfl ?_
        refine ridd_orderOn_L41_ok hd hE hR ?_ FU 0 M _ hf
        · intro M_14 j0_15 j1_16 j2_17 j3_18 j4_19 j5_20 j6_21 hf
          exact ex_vre (dg dc42 74 rfl) rfl hf
      · refine ex_pu (ls' := [vR 161, vI v1, vI v2, vI v3, vI v4, vU, vU]) (st' := [vR 161]) (dg dc42 10 rfl) rfl rfl ?_
        refine ex_pu (ls' := [vR 161, vI v1, vI v2, vI v3, vI v4, vU, vU]) (st' := [vI v4, vR 161]) (dg dc42 11 rfl) rfl rfl ?_
        refine ex_putI (dg dc42 12 rfl) rfl (LOC.st (Nat.le_of_ble_eq_true rfl) rfl) rfl rfl rfl ?_
        refine ex_gen hf (fun M_22 hM_23 hf => ?_)
        refine ex_pu (ls' := [vR 161, vI v1, vI v2, vI v3, vI v4, vU, vU]) (st' := [vR 161]) (dg dc42 13 rfl) rfl rfl ?_
        refine ex_getO (dg dc42 14 rfl) rfl (LOC.st (Nat.le_of_ble_eq_true rfl) rfl) rfl ?_
        show EX Z _ 42 _ [vR 161, vI v1, vI v2, vI v3, vI v4, vU, vU] [vR 162] _ _
        refine ex_pu (ls' := [vR 161, vI v1, vI v2, vI v3, vI v4, vU, vU]) (st' := [vR 161, vR 162]) (dg dc42 15 rfl) rfl rfl ?_
        refine ex_getO (dg dc42 16 rfl) rfl (LOC.st (Nat.le_of_ble_eq_true rfl) rfl) rfl ?_
        show EX Z _ 42 _ [vR 161, vI v1, vI v2, vI v3, vI v4, vU, vU] [vR 163, vR 162] _ _
        refine ex_cV (vs := [vR 162, vR 163]) (st' := []) (F := (land_copyRow 162 163 7 M_22)) (Or.inl ⟨rfl, (dg dc42 17 rfl)⟩) rfl rfl (Or.inl rfl) rfl (fun _ r9 => land_copyRow_ok (Z := Z) (d := e9) (LOC.st (Nat.le_of_ble_eq_true rfl) rfl) (LOC.st (Nat.le_of_ble_eq_true rfl) rfl) (by decide) rfl r9) hf (fun M_25 he_24 hf => ?_)
        exact ex_vre (dg dc42 18 rfl) rfl hf
  · exact ex_vre (dg dc42 4 rfl) rfl hf
def ridd_orderOn_F : Nat → Int → Int → Int → Int → MM → OR
  | 0, _, _, _, _, _ => none
  | n + 1, u0, u1, u2, u3, M => ridd_orderOn (ridd_orderOn_F n) u0 u1 u2 u3 M
theorem ridd_orderOn_F_ok {Z : Nat × (Nat → Int)} : ∀ (n : Nat) {d : Nat}, 1 + 1 * n ≤ d → ∀ {u0 u1 u2 u3 : Int} {M : MM} {r : AR × MM}, ridd_orderOn_F n u0 u1 u2 u3 M = some r → EX Z d 42 0 (ent 42 [vR 161, vI u0, vI u1, vI u2, vI u3]) [] M r := by
  intro n
  induction n with
  | zero =>
    intro d hd u0 u1 u2 u3 M r hf
    unfold ridd_orderOn_F at hf
    cases hf
  | succ n ih =>
    intro d hd u0 u1 u2 u3 M r hf
    unfold ridd_orderOn_F at hf
    exact ridd_orderOn_ok (by omega) (E9 := 1 + 1 * n) (by omega) (fun he => fun hr => ih he hr) hf
-- GlassHill$Riddles.countWays
def il44 : List (Nat × Instr × Nat) := [(0, .aload_n 0, 1), (1, .getfield 21, 3), (4, .invokevirtual 84, 3), (7, .istore_n 2, 1), (8, .iload_n 2, 1), (9, .ifCond .lt 102, 3), (12, .iload_n 2, 1), (13, .invokestatic 43, 3), (16, .istore_n 3, 1), (17, .aload_n 0, 1), (18, .getfield 18, 3), (21, .iload_n 2, 1), (22, .iload_n 3, 1), (23, .iload_n 1, 1), (24, .if_icmp .ne 7, 3), (27, .iconst 1, 1), (28, .goto 4, 3), (31, .iconst 0, 1), (32, .iastore, 1), (33, .iconst 0, 1), (34, .istore 4, 2), (36, .iload 4, 2), (38, .aload_n 0, 1), (39, .getfield 21, 3), (42, .getfield 88, 3), (45, .if_icmp .ge 60, 3), (48, .iload 4, 2), (50, .bipush 7, 2), (52, .if_icmp .ge 53, 3), (55, .iload_n 3, 1), (56, .iload_n 1, 1), (57, .if_icmp .ge 48, 3), (60, .iload_n 2, 1), (61, .iload 4, 2), (63, .invokestatic 59, 3), (66, .ifCond .ne 33, 3), (69, .aload_n 0, 1), (70, .iload_n 3, 1), (71, .iload 4, 2), (73, .invokevirtual 91, 3), (76, .ifCond .eq 23, 3), (79, .aload_n 0, 1), (80, .getfield 18, 3), (83, .iload_n 2, 1), (84, .dup2, 1), (85, .iaload, 1), (86, .aload_n 0, 1), (87, .getfield 18, 3), (90, .iload_n 2, 1), (91, .iconst 1, 1), (92, .iload 4, 2), (94, .ishl, 1), (95, .ior, 1), (96, .iaload, 1), (97, .iadd, 1), (98, .iastore, 1), (99, .iinc 4 1, 3), (102, .goto (-66), 3), (105, .iinc 2 (-1), 3), (108, .goto (-100), 3), (111, .return_, 1)]
theorem dc44 : dcs (mC 44) il44 := dc_of (by decide +kernel)
def ridd_countWays_L36  (v1 v2 v3 : Int) (K1 : MM → OR) : Nat → Int → MM → OR
  | 0, _, _ => none
  | n + 1, v4, M => (bif cmpB .ge v4 (M 3 3) then (K1  M) else (bif cmpB .ge v4 7 then (K1  M) else (bif cmpB .ge v3 v1 then (K1  M) else (bI (gh_bit v2 v4 M) fun z_11 M_10 => (bif cmpB .ne z_11 0 then (ridd_countWays_L36 v1 v2 v3 K1 n (v4 + 1) M_10) else (bI (ridd_canBeHis v3 v4 M_10) fun z_14 M_13 => (bif cmpB .eq z_14 0 then (ridd_countWays_L36 v1 v2 v3 K1 n (v4 + 1) M_13) else (bif inB v2 128 then (bif inB (iOr v2 (iShl 1 v4)) 128 then (bif inB v2 128 then (sM (mU M_13 164 (v2).toNat ((M_13 164 (v2).toNat) + (M_13 164 ((iOr v2 (iShl 1 v4))).toNat))) fun M_15 => (ridd_countWays_L36 v1 v2 v3 K1 n (v4 + 1) M_15)) else none) else none) else none))))))))
set_option maxRecDepth 4000 in
theorem ridd_countWays_L36_ok {Z : Nat × (Nat → Int)} {d : Nat} (hd : 2 ≤ d)  {v1 v2 v3 : Int} {K1 : MM → OR} {res : AR × MM} (k1 : ∀ (M : MM) (j3 j4 : AV), K1  M = some res → EX Z d 44 105 [vR 161, vI v1, vI v2, j3, j4] [] M res) : ∀ (n : Nat) (v4 : Int) (M : MM), ridd_countWays_L36 v1 v2 v3 K1 n v4 M = some res → EX Z d 44 36 [vR 161, vI v1, vI v2, vI v3, vI v4] [] M res := by
  obtain ⟨e9, rfl⟩ : ∃ e9, d = e9 + 1 := ⟨d - 1, by omega⟩
  intro n
  induction n with
  | zero =>
    intro v4 M hf
    unfold ridd_countWays_L36 at hf
    cases hf
  | succ n ih =>
    intro v4 M hf
    unfold ridd_countWays_L36 at hf
    refine ex_pu (ls' := [vR 161, vI v1, vI v2, vI v3, vI v4]) (st' := [vI v4]) (dg dc44 21 rfl) rfl rfl ?_
    refine ex_pu (ls' := [vR 161, vI v1, vI v2, vI v3, vI v4]) (st' := [vR 161, vI v4]) (dg dc44 22 rfl) rfl rfl ?_
    refine ex_getF (dg dc44 23 rfl) rfl (LOC.st (Nat.le_of_ble_eq_true rfl) rfl) rfl ?_
    refine ex_getI (dg dc44 24 rfl) rfl (LOC.st (Nat.le_of_ble_eq_true rfl) rfl) rfl ?_
    refine ex_icmp (t := 105) (dg dc44 25 rfl) rfl hf (fun _ hf => ?_) (fun _ hf => ?_)
    · exact k1  M _ _ hf
    · refine ex_pu (ls' := [vR 161, vI v1, vI v2, vI v3, vI v4]) (st' := [vI v4]) (dg dc44 26 rfl) rfl rfl ?_
      refine ex_pu (ls' := [vR 161, vI v1, vI v2, vI v3, vI v4]) (st' := [vI 7, vI v4]) (dg dc44 27 rfl) rfl rfl ?_
      refine ex_icmp (t := 105) (dg dc44 28 rfl) rfl hf (fun _ hf => ?_) (fun _ hf => ?_)
      · exact k1  M _ _ hf
      · refine ex_pu (ls' := [vR 161, vI v1, vI v2, vI v3, vI v4]) (st' := [vI v3]) (dg dc44 29 rfl) rfl rfl ?_
        refine ex_pu (ls' := [vR 161, vI v1, vI v2, vI v3, vI v4]) (st' := [vI v1, vI v3]) (dg dc44 30 rfl) rfl rfl ?_
        refine ex_icmp (t := 105) (dg dc44 31 rfl) rfl hf (fun _ hf => ?_) (fun _ hf => ?_)
        · exact k1  M _ _ hf
        · refine ex_pu (ls' := [vR 161, vI v1, vI v2, vI v3, vI v4]) (st' := [vI v2]) (dg dc44 32 rfl) rfl rfl ?_
          refine ex_pu (ls' := [vR 161, vI v1, vI v2, vI v3, vI v4]) (st' := [vI v4, vI v2]) (dg dc44 33 rfl) rfl rfl ?_
          refine ex_cI (vs := [vI v2, vI v4]) (st' := []) (F := (gh_bit v2 v4 M)) (Or.inl ⟨rfl, (dg dc44 34 rfl)⟩) rfl rfl (Or.inl rfl) rfl (fun _ r9 => gh_bit_ok (Z := Z) (d := e9) (by omega)  r9) hf (fun z_11 M_10 he_9 hf => ?_)
          refine ex_if (t := 99) (dg dc44 35 rfl) rfl hf (fun _ hf => ?_) (fun _ hf => ?_)
          · refine ex_pu (ls' := [vR 161, vI v1, vI v2, vI v3, vI (v4 + 1)]) (st' := []) (dg dc44 56 rfl) rfl rfl ?_
            refine ex_goto (t := 36) (dg dc44 57 rfl) rfl rfl ?_
            exact ih (v4 + 1) M_10 hf
          · refine ex_pu (ls' := [vR 161, vI v1, vI v2, vI v3, vI v4]) (st' := [vR 161]) (dg dc44 36 rfl) rfl rfl ?_
            refine ex_pu (ls' := [vR 161, vI v1, vI v2, vI v3, vI v4]) (st' := [vI v3, vR 161]) (dg dc44 37 rfl) rfl rfl ?_
            refine ex_pu (ls' := [vR 161, vI v1, vI v2, vI v3, vI v4]) (st' := [vI v4, vI v3, vR 161]) (dg dc44 38 rfl) rfl rfl ?_
            refine ex_cI (vs := [vR 161, vI v3, vI v4]) (st' := []) (F := (ridd_canBeHis v3 v4 M_10)) (Or.inr (Or.inl ⟨rfl, (dg dc44 39 rfl)⟩)) rfl rfl (rk1 (LOC.st (Nat.le_of_ble_eq_true rfl) rfl) rfl) rfl (fun _ r9 => ridd_canBeHis_ok (Z := Z) (d := e9) (by omega)  r9) hf (fun z_14 M_13 he_12 hf => ?_)
            refine ex_if (t := 99) (dg dc44 40 rfl) rfl hf (fun _ hf => ?_) (fun _ hf => ?_)
            · refine ex_pu (ls' := [vR 161, vI v1, vI v2, vI v3, vI (v4 + 1)]) (st' := []) (dg dc44 56 rfl) rfl rfl ?_
              refine ex_goto (t := 36) (dg dc44 57 rfl) rfl rfl ?_
              exact ih (v4 + 1) M_13 hf
            · refine ex_pu (ls' := [vR 161, vI v1, vI v2, vI v3, vI v4]) (st' := [vR 161]) (dg dc44 41 rfl) rfl rfl ?_
              refine ex_getO (dg dc44 42 rfl) rfl (LOC.st (Nat.le_of_ble_eq_true rfl) rfl) rfl ?_
              show EX Z _ 44 _ [vR 161, vI v1, vI v2, vI v3, vI v4] [vR 164] _ _
              refine ex_pu (ls' := [vR 161, vI v1, vI v2, vI v3, vI v4]) (st' := [vI v2, vR 164]) (dg dc44 43 rfl) rfl rfl ?_
              refine ex_pu (ls' := [vR 161, vI v1, vI v2, vI v3, vI v4]) (st' := [vI v2, vR 164, vI v2, vR 164]) (dg dc44 44 rfl) rfl rfl ?_
              refine ex_iald (dg dc44 45 rfl) (LOC.st (Nat.le_of_ble_eq_true rfl) rfl) rfl hf (fun _ hf => ?_)
              refine ex_pu (ls' := [vR 161, vI v1, vI v2, vI v3, vI v4]) (st' := [vR 161, vI (M_13 164 (v2).toNat), vI v2, vR 164]) (dg dc44 46 rfl) rfl rfl ?_
              refine ex_getO (dg dc44 47 rfl) rfl (LOC.st (Nat.le_of_ble_eq_true rfl) rfl) rfl ?_
              show EX Z _ 44 _ [vR 161, vI v1, vI v2, vI v3, vI v4] [vR 164, vI (M_13 164 (v2).toNat), vI v2, vR 164] _ _
              refine ex_pu (ls' := [vR 161, vI v1, vI v2, vI v3, vI v4]) (st' := [vI v2, vR 164, vI (M_13 164 (v2).toNat), vI v2, vR 164]) (dg dc44 48 rfl) rfl rfl ?_
              refine ex_pu (ls' := [vR 161, vI v1, vI v2, vI v3, vI v4]) (st' := [vI 1, vI v2, vR 164, vI (M_13 164 (v2).toNat), vI v2, vR 164]) (dg dc44 49 rfl) rfl rfl ?_
              refine ex_pu (ls' := [vR 161, vI v1, vI v2, vI v3, vI v4]) (st' := [vI v4, vI 1, vI v2, vR 164, vI (M_13 164 (v2).toNat), vI v2, vR 164]) (dg dc44 50 rfl) rfl rfl ?_
              refine ex_pu (ls' := [vR 161, vI v1, vI v2, vI v3, vI v4]) (st' := [vI (iShl 1 v4), vI v2, vR 164, vI (M_13 164 (v2).toNat), vI v2, vR 164]) (dg dc44 51 rfl) rfl rfl ?_
              refine ex_pu (ls' := [vR 161, vI v1, vI v2, vI v3, vI v4]) (st' := [vI (iOr v2 (iShl 1 v4)), vR 164, vI (M_13 164 (v2).toNat), vI v2, vR 164]) (dg dc44 52 rfl) rfl rfl ?_
              refine ex_iald (dg dc44 53 rfl) (LOC.st (Nat.le_of_ble_eq_true rfl) rfl) rfl hf (fun _ hf => ?_)
              refine ex_pu (ls' := [vR 161, vI v1, vI v2, vI v3, vI v4]) (st' := [vI ((M_13 164 (v2).toNat) + (M_13 164 ((iOr v2 (iShl 1 v4))).toNat)), vI v2, vR 164]) (dg dc44 54 rfl) rfl rfl ?_
              refine ex_iast (dg dc44 55 rfl) (LOC.st (Nat.le_of_ble_eq_true rfl) rfl) rfl rfl hf (fun _ hf => ?_)
              refine ex_gen hf (fun M_15 hM_16 hf => ?_)
              refine ex_pu (ls' := [vR 161, vI v1, vI v2, vI v3, vI (v4 + 1)]) (st' := []) (dg dc44 56 rfl) rfl rfl ?_
              refine ex_goto (t := 36) (dg dc44 57 rfl) rfl rfl ?_
              exact ih (v4 + 1) M_15 hf
def ridd_countWays_J32  (v1 : Int) (Kb : Int → MM → OR) (K1 : MM → OR) (v2 v3 s0 s1 : Int) (M : MM) : OR :=
  (bif inB s1 128 then (sM (mU M 164 (s1).toNat s0) fun M_7 => (ridd_countWays_L36 v1 v2 v3 (fun M_17 => (Kb (v2 + (-1)) M_17)) FU 0 M_7)) else none)
set_option maxRecDepth 4000 in
theorem ridd_countWays_J32_ok {Z : Nat × (Nat → Int)} {d : Nat} (hd : 2 ≤ d)  {v1 : Int} {Kb : Int → MM → OR} {K1 : MM → OR} {res : AR × MM} (kb : ∀ (x2 : Int) (M : MM) (j3 j4 : AV), Kb x2 M = some res → EX Z d 44 8 [vR 161, vI v1, vI x2, j3, j4] [] M res) (k1 : ∀ (M : MM) (j0 j1 j2 j3 j4 : AV), K1  M = some res → EX Z d 44 111 [j0, j1, j2, j3, j4] [] M res) : ∀ (v2 v3 s0 s1 : Int) (M : MM) (j4 : AV), ridd_countWays_J32 v1 Kb K1 v2 v3 s0 s1 M = some res → EX Z d 44 32 [vR 161, vI v1, vI v2, vI v3, j4] [vI s0, vI s1, vR 164] M res := by
  obtain ⟨e9, rfl⟩ : ∃ e9, d = e9 + 1 := ⟨d - 1, by omega⟩
  intro v2 v3 s0 s1 M j4 hf
  unfold ridd_countWays_J32 at hf
  refine ex_iast (dg dc44 18 rfl) (LOC.st (Nat.le_of_ble_eq_true rfl) rfl) rfl rfl hf (fun _ hf => ?_)
  refine ex_gen hf (fun M_7 hM_8 hf => ?_)
  refine ex_pu (ls' := [vR 161, vI v1, vI v2, vI v3, j4]) (st' := [vI 0]) (dg dc44 19 rfl) rfl rfl ?_
  refine ex_pu (ls' := [vR 161, vI v1, vI v2, vI v3, vI 0]) (st' := []) (dg dc44 20 rfl) rfl rfl ?_
  refine ridd_countWays_L36_ok hd  ?_ FU 0 M_7 hf
  · intro M_17 j3_18 j4_19 hf
    refine ex_pu (ls' := [vR 161, vI v1, vI (v2 + (-1)), j3_18, j4_19]) (st' := []) (dg dc44 58 rfl) rfl rfl ?_
    refine ex_goto (t := 8) (dg dc44 59 rfl) rfl rfl ?_
    exact kb (v2 + (-1)) M_17 _ _ hf
def ridd_countWays_L8  (v1 : Int) (K1 : MM → OR) : Nat → Int → MM → OR
  | 0, _, _ => none
  | n + 1, v2, M => (bif cmpB .lt v2 0 then (K1  M) else (bI (jdk_bitCount v2 M) fun z_6 M_5 => (bif cmpB .ne z_6 v1 then (ridd_countWays_J32 v1 (ridd_countWays_L8 v1 K1 n) K1 v2 z_6 0 v2 M_5) else (ridd_countWays_J32 v1 (ridd_countWays_L8 v1 K1 n) K1 v2 z_6 1 v2 M_5))))
set_option maxRecDepth 4000 in
theorem ridd_countWays_L8_ok {Z : Nat × (Nat → Int)} {d : Nat} (hd : 2 ≤ d)  {v1 : Int} {K1 : MM → OR} {res : AR × MM} (k1 : ∀ (M : MM) (j0 j1 j2 j3 j4 : AV), K1  M = some res → EX Z d 44 111 [j0, j1, j2, j3, j4] [] M res) : ∀ (n : Nat) (v2 : Int) (M : MM) (j3 j4 : AV), ridd_countWays_L8 v1 K1 n v2 M = some res → EX Z d 44 8 [vR 161, vI v1, vI v2, j3, j4] [] M res := by
  obtain ⟨e9, rfl⟩ : ∃ e9, d = e9 + 1 := ⟨d - 1, by omega⟩
  intro n
  induction n with
  | zero =>
    intro v2 M j3 j4 hf
    unfold ridd_countWays_L8 at hf
    cases hf
  | succ n ih =>
    intro v2 M j3 j4 hf
    unfold ridd_countWays_L8 at hf
    refine ex_pu (ls' := [vR 161, vI v1, vI v2, j3, j4]) (st' := [vI v2]) (dg dc44 4 rfl) rfl rfl ?_
    refine ex_if (t := 111) (dg dc44 5 rfl) rfl hf (fun _ hf => ?_) (fun _ hf => ?_)
    · exact k1  M _ _ _ _ _ hf
    · refine ex_pu (ls' := [vR 161, vI v1, vI v2, j3, j4]) (st' := [vI v2]) (dg dc44 6 rfl) rfl rfl ?_
      refine ex_cI (vs := [vI v2]) (st' := []) (F := (jdk_bitCount v2 M)) (Or.inl ⟨rfl, (dg dc44 7 rfl)⟩) rfl rfl (Or.inl rfl) rfl (fun _ r9 => jdk_bitCount_ok (Z := Z) (d := e9) (by omega)  r9) hf (fun z_6 M_5 he_4 hf => ?_)
      refine ex_pu (ls' := [vR 161, vI v1, vI v2, vI z_6, j4]) (st' := []) (dg dc44 8 rfl) rfl rfl ?_
      refine ex_pu (ls' := [vR 161, vI v1, vI v2, vI z_6, j4]) (st' := [vR 161]) (dg dc44 9 rfl) rfl rfl ?_
      refine ex_getO (dg dc44 10 rfl) rfl (LOC.st (Nat.le_of_ble_eq_true rfl) rfl) rfl ?_
      show EX Z _ 44 _ [vR 161, vI v1, vI v2, vI z_6, j4] [vR 164] _ _
      refine ex_pu (ls' := [vR 161, vI v1, vI v2, vI z_6, j4]) (st' := [vI v2, vR 164]) (dg dc44 11 rfl) rfl rfl ?_
      refine ex_pu (ls' := [vR 161, vI v1, vI v2, vI z_6, j4]) (st' := [vI z_6, vI v2, vR 164]) (dg dc44 12 rfl) rfl rfl ?_
      refine ex_pu (ls' := [vR 161, vI v1, vI v2, vI z_6, j4]) (st' := [vI v1, vI z_6, vI v2, vR 164]) (dg dc44 13 rfl) rfl rfl ?_
      refine ex_icmp (t := 31) (dg dc44 14 rfl) rfl hf (fun _ hf => ?_) (fun _ hf => ?_)
      · refine ex_pu (ls' := [vR 161, vI v1, vI v2, vI z_6, j4]) (st' := [vI 0, vI v2, vR 164]) (dg dc44 17 rfl) rfl rfl ?_
        exact ridd_countWays_J32_ok hd  ih k1 v2 z_6 0 v2 M_5 _ hf
      · refine ex_pu (ls' := [vR 161, vI v1, vI v2, vI z_6, j4]) (st' := [vI 1, vI v2, vR 164]) (dg dc44 15 rfl) rfl rfl ?_
        refine ex_goto (t := 32) (dg dc44 16 rfl) rfl rfl ?_
        exact ridd_countWays_J32_ok hd  ih k1 v2 z_6 1 v2 M_5 _ hf
def ridd_countWays (v1 : Int) (M : MM) : OR :=
  (bI (land_allBrothers 3 M) fun z_3 M_2 => (ridd_countWays_L8 v1 (fun M_20 => some (rV, M_20)) FU z_3 M_2))
set_option maxRecDepth 4000 in
theorem ridd_countWays_ok {Z : Nat × (Nat → Int)} {d : Nat} (hd : 2 ≤ d) {M : MM}  {v1 : Int} {res : AR × MM} (hf : ridd_countWays v1 M = some res) : EX Z d 44 0 (ent 44 [vR 161, vI v1]) [] M res := by
  obtain ⟨e9, rfl⟩ : ∃ e9, d = e9 + 1 := ⟨d - 1, by omega⟩
  unfold ridd_countWays at hf
  show EX Z _ 44 0 [vR 161, vI v1, vU, vU, vU] [] M res
  refine ex_pu (ls' := [vR 161, vI v1, vU, vU, vU]) (st' := [vR 161]) (dg dc44 0 rfl) rfl rfl ?_
  refine ex_getF (dg dc44 1 rfl) rfl (LOC.st (Nat.le_of_ble_eq_true rfl) rfl) rfl ?_
  refine ex_cI (vs := [vR 3]) (st' := []) (F := (land_allBrothers 3 M)) (Or.inr (Or.inl ⟨rfl, (dg dc44 2 rfl)⟩)) rfl rfl (rk1 (LOC.st (Nat.le_of_ble_eq_true rfl) rfl) rfl) rfl (fun _ r9 => land_allBrothers_ok (Z := Z) (d := e9) (by omega) isLand3  r9) hf (fun z_3 M_2 he_1 hf => ?_)
  refine ex_pu (ls' := [vR 161, vI v1, vI z_3, vU, vU]) (st' := []) (dg dc44 3 rfl) rfl rfl ?_
  refine ridd_countWays_L8_ok hd  ?_ FU z_3 M_2 _ _ hf
  · intro M_20 j0_21 j1_22 j2_23 j3_24 j4_25 hf
    exact ex_vre (dg dc44 60 rfl) rfl hf
-- GlassHill$Riddles.leastThatGoesOn
def il45 : List (Nat × Instr × Nat) := [(0, .iconst 0, 1), (1, .istore_n 3, 1), (2, .iload_n 3, 1), (3, .aload_n 0, 1), (4, .getfield 21, 3), (7, .getfield 88, 3), (10, .if_icmp .ge 47, 3), (13, .iload_n 3, 1), (14, .bipush 7, 2), (16, .if_icmp .ge 41, 3), (19, .iload_n 2, 1), (20, .iload_n 3, 1), (21, .invokestatic 59, 3), (24, .ifCond .ne 27, 3), (27, .aload_n 0, 1), (28, .iload_n 1, 1), (29, .iload_n 3, 1), (30, .invokevirtual 91, 3), (33, .ifCond .eq 18, 3), (36, .aload_n 0, 1), (37, .getfield 18, 3), (40, .iload_n 2, 1), (41, .iconst 1, 1), (42, .iload_n 3, 1), (43, .ishl, 1), (44, .ior, 1), (45, .iaload, 1), (46, .ifCond .le 5, 3), (49, .iload_n 3, 1), (50, .ireturn, 1), (51, .iinc 3 1, 3), (54, .goto (-52), 3), (57, .iconst (-1), 1), (58, .ireturn, 1)]
theorem dc45 : dcs (mC 45) il45 := dc_of (by decide +kernel)
def ridd_leastThatGoesOn_L2  (v1 v2 : Int) (K1 : MM → OR) (K2 : Int → MM → OR) : Nat → Int → MM → OR
  | 0, _, _ => none
  | n + 1, v3, M => (bif cmpB .ge v3 (M 3 3) then (K1  M) else (bif cmpB .ge v3 7 then (K1  M) else (bI (gh_bit v2 v3 M) fun z_3 M_2 => (bif cmpB .ne z_3 0 then (ridd_leastThatGoesOn_L2 v1 v2 K1 K2 n (v3 + 1) M_2) else (bI (ridd_canBeHis v1 v3 M_2) fun z_6 M_5 => (bif cmpB .eq z_6 0 then (ridd_leastThatGoesOn_L2 v1 v2 K1 K2 n (v3 + 1) M_5) else (bif inB (iOr v2 (iShl 1 v3)) 128 then (bif cmpB .le (M_5 164 ((iOr v2 (iShl 1 v3))).toNat) 0 then (ridd_leastThatGoesOn_L2 v1 v2 K1 K2 n (v3 + 1) M_5) else (K2 v3 M_5)) else none)))))))
set_option maxRecDepth 4000 in
theorem ridd_leastThatGoesOn_L2_ok {Z : Nat × (Nat → Int)} {d : Nat} (hd : 2 ≤ d)  {v1 v2 : Int} {K1 : MM → OR} {K2 : Int → MM → OR} {res : AR × MM} (k1 : ∀ (M : MM) (j0 j1 j2 j3 : AV), K1  M = some res → EX Z d 45 57 [j0, j1, j2, j3] [] M res) (k2 : ∀ (x3 : Int) (M : MM) (j0 j1 j2 : AV), K2 x3 M = some res → EX Z d 45 49 [j0, j1, j2, vI x3] [] M res) : ∀ (n : Nat) (v3 : Int) (M : MM), ridd_leastThatGoesOn_L2 v1 v2 K1 K2 n v3 M = some res → EX Z d 45 2 [vR 161, vI v1, vI v2, vI v3] [] M res := by
  obtain ⟨e9, rfl⟩ : ∃ e9, d = e9 + 1 := ⟨d - 1, by omega⟩
  intro n
  induction n with
  | zero =>
    intro v3 M hf
    unfold ridd_leastThatGoesOn_L2 at hf
    cases hf
  | succ n ih =>
    intro v3 M hf
    unfold ridd_leastThatGoesOn_L2 at hf
    refine ex_pu (ls' := [vR 161, vI v1, vI v2, vI v3]) (st' := [vI v3]) (dg dc45 2 rfl) rfl rfl ?_
    refine ex_pu (ls' := [vR 161, vI v1, vI v2, vI v3]) (st' := [vR 161, vI v3]) (dg dc45 3 rfl) rfl rfl ?_
    refine ex_getF (dg dc45 4 rfl) rfl (LOC.st (Nat.le_of_ble_eq_true rfl) rfl) rfl ?_
    refine ex_getI (dg dc45 5 rfl) rfl (LOC.st (Nat.le_of_ble_eq_true rfl) rfl) rfl ?_
    refine ex_icmp (t := 57) (dg dc45 6 rfl) rfl hf (fun _ hf => ?_) (fun _ hf => ?_)
    · exact k1  M _ _ _ _ hf
    · refine ex_pu (ls' := [vR 161, vI v1, vI v2, vI v3]) (st' := [vI v3]) (dg dc45 7 rfl) rfl rfl ?_
      refine ex_pu (ls' := [vR 161, vI v1, vI v2, vI v3]) (st' := [vI 7, vI v3]) (dg dc45 8 rfl) rfl rfl ?_
      refine ex_icmp (t := 57) (dg dc45 9 rfl) rfl hf (fun _ hf => ?_) (fun _ hf => ?_)
      · exact k1  M _ _ _ _ hf
      · refine ex_pu (ls' := [vR 161, vI v1, vI v2, vI v3]) (st' := [vI v2]) (dg dc45 10 rfl) rfl rfl ?_
        refine ex_pu (ls' := [vR 161, vI v1, vI v2, vI v3]) (st' := [vI v3, vI v2]) (dg dc45 11 rfl) rfl rfl ?_
        refine ex_cI (vs := [vI v2, vI v3]) (st' := []) (F := (gh_bit v2 v3 M)) (Or.inl ⟨rfl, (dg dc45 12 rfl)⟩) rfl rfl (Or.inl rfl) rfl (fun _ r9 => gh_bit_ok (Z := Z) (d := e9) (by omega)  r9) hf (fun z_3 M_2 he_1 hf => ?_)
        refine ex_if (t := 51) (dg dc45 13 rfl) rfl hf (fun _ hf => ?_) (fun _ hf => ?_)
        · refine ex_pu (ls' := [vR 161, vI v1, vI v2, vI (v3 + 1)]) (st' := []) (dg dc45 30 rfl) rfl rfl ?_
          refine ex_goto (t := 2) (dg dc45 31 rfl) rfl rfl ?_
          exact ih (v3 + 1) M_2 hf
        · refine ex_pu (ls' := [vR 161, vI v1, vI v2, vI v3]) (st' := [vR 161]) (dg dc45 14 rfl) rfl rfl ?_
          refine ex_pu (ls' := [vR 161, vI v1, vI v2, vI v3]) (st' := [vI v1, vR 161]) (dg dc45 15 rfl) rfl rfl ?_
          refine ex_pu (ls' := [vR 161, vI v1, vI v2, vI v3]) (st' := [vI v3, vI v1, vR 161]) (dg dc45 16 rfl) rfl rfl ?_
          refine ex_cI (vs := [vR 161, vI v1, vI v3]) (st' := []) (F := (ridd_canBeHis v1 v3 M_2)) (Or.inr (Or.inl ⟨rfl, (dg dc45 17 rfl)⟩)) rfl rfl (rk1 (LOC.st (Nat.le_of_ble_eq_true rfl) rfl) rfl) rfl (fun _ r9 => ridd_canBeHis_ok (Z := Z) (d := e9) (by omega)  r9) hf (fun z_6 M_5 he_4 hf => ?_)
          refine ex_if (t := 51) (dg dc45 18 rfl) rfl hf (fun _ hf => ?_) (fun _ hf => ?_)
          · refine ex_pu (ls' := [vR 161, vI v1, vI v2, vI (v3 + 1)]) (st' := []) (dg dc45 30 rfl) rfl rfl ?_
            refine ex_goto (t := 2) (dg dc45 31 rfl) rfl rfl ?_
            exact ih (v3 + 1) M_5 hf
          · refine ex_pu (ls' := [vR 161, vI v1, vI v2, vI v3]) (st' := [vR 161]) (dg dc45 19 rfl) rfl rfl ?_
            refine ex_getO (dg dc45 20 rfl) rfl (LOC.st (Nat.le_of_ble_eq_true rfl) rfl) rfl ?_
            show EX Z _ 45 _ [vR 161, vI v1, vI v2, vI v3] [vR 164] _ _
            refine ex_pu (ls' := [vR 161, vI v1, vI v2, vI v3]) (st' := [vI v2, vR 164]) (dg dc45 21 rfl) rfl rfl ?_
            refine ex_pu (ls' := [vR 161, vI v1, vI v2, vI v3]) (st' := [vI 1, vI v2, vR 164]) (dg dc45 22 rfl) rfl rfl ?_
            refine ex_pu (ls' := [vR 161, vI v1, vI v2, vI v3]) (st' := [vI v3, vI 1, vI v2, vR 164]) (dg dc45 23 rfl) rfl rfl ?_
            refine ex_pu (ls' := [vR 161, vI v1, vI v2, vI v3]) (st' := [vI (iShl 1 v3), vI v2, vR 164]) (dg dc45 24 rfl) rfl rfl ?_
            refine ex_pu (ls' := [vR 161, vI v1, vI v2, vI v3]) (st' := [vI (iOr v2 (iShl 1 v3)), vR 164]) (dg dc45 25 rfl) rfl rfl ?_
            refine ex_iald (dg dc45 26 rfl) (LOC.st (Nat.le_of_ble_eq_true rfl) rfl) rfl hf (fun _ hf => ?_)
            refine ex_if (t := 51) (dg dc45 27 rfl) rfl hf (fun _ hf => ?_) (fun _ hf => ?_)
            · refine ex_pu (ls' := [vR 161, vI v1, vI v2, vI (v3 + 1)]) (st' := []) (dg dc45 30 rfl) rfl rfl ?_
              refine ex_goto (t := 2) (dg dc45 31 rfl) rfl rfl ?_
              exact ih (v3 + 1) M_5 hf
            · exact k2 v3 M_5 _ _ _ hf
def ridd_leastThatGoesOn (v1 : Int) (v2 : Int) (M : MM) : OR :=
  (ridd_leastThatGoesOn_L2 v1 v2 (fun M_7 => some (rI (-1), M_7)) (fun v3_12 M_13 => some (rI v3_12, M_13)) FU 0 M)
set_option maxRecDepth 4000 in
theorem ridd_leastThatGoesOn_ok {Z : Nat × (Nat → Int)} {d : Nat} (hd : 2 ≤ d) {M : MM}  {v1 v2 : Int} {res : AR × MM} (hf : ridd_leastThatGoesOn v1 v2 M = some res) : EX Z d 45 0 (ent 45 [vR 161, vI v1, vI v2]) [] M res := by
  obtain ⟨e9, rfl⟩ : ∃ e9, d = e9 + 1 := ⟨d - 1, by omega⟩
  unfold ridd_leastThatGoesOn at hf
  show EX Z _ 45 0 [vR 161, vI v1, vI v2, vU] [] M res
  refine ex_pu (ls' := [vR 161, vI v1, vI v2, vU]) (st' := [vI 0]) (dg dc45 0 rfl) rfl rfl ?_
  refine ex_pu (ls' := [vR 161, vI v1, vI v2, vI 0]) (st' := []) (dg dc45 1 rfl) rfl rfl ?_
  refine ridd_leastThatGoesOn_L2_ok hd  ?_ ?_ FU 0 M hf
  · intro M_7 j0_8 j1_9 j2_10 j3_11 hf
    refine ex_pu (ls' := [j0_8, j1_9, j2_10, j3_11]) (st' := [vI (-1)]) (dg dc45 32 rfl) rfl rfl ?_
    exact ex_ire (dg dc45 33 rfl) rfl hf
  · intro v3_12 M_13 j0_14 j1_15 j2_16 hf
    refine ex_pu (ls' := [j0_14, j1_15, j2_16, vI v3_12]) (st' := [vI v3_12]) (dg dc45 28 rfl) rfl rfl ?_
    exact ex_ire (dg dc45 29 rfl) rfl hf
-- GlassHill$Riddles.locksAnswer
def il47 : List (Nat × Instr × Nat) := [(0, .iconst 0, 1), (1, .istore_n 3, 1), (2, .iconst 0, 1), (3, .istore 4, 2), (5, .iconst 0, 1), (6, .istore 5, 2), (8, .iload 5, 2), (10, .iload_n 1, 1), (11, .if_icmp .ge 78, 3), (14, .iconst 2, 1), (15, .iload 5, 2), (17, .imul, 1), (18, .iconst 1, 1), (19, .iadd, 1), (20, .sipush 400, 3), (23, .if_icmp .ge 66, 3), (26, .aload_n 0, 1), (27, .getfield 29, 3), (30, .getfield 95, 3), (33, .iconst 2, 1), (34, .iload 5, 2), (36, .imul, 1), (37, .iconst 1, 1), (38, .iadd, 1), (39, .iaload, 1), (40, .iconst 1, 1), (41, .if_icmp .ne 23, 3), (44, .iload_n 3, 1), (45, .iconst 1, 1), (46, .aload_n 0, 1), (47, .getfield 29, 3), (50, .getfield 95, 3), (53, .iconst 2, 1), (54, .iload 5, 2), (56, .imul, 1), (57, .iaload, 1), (58, .ishl, 1), (59, .ior, 1), (60, .istore_n 3, 1), (61, .goto 22, 3), (64, .iload 4, 2), (66, .iconst 1, 1), (67, .aload_n 0, 1), (68, .getfield 29, 3), (71, .getfield 95, 3), (74, .iconst 2, 1), (75, .iload 5, 2), (77, .imul, 1), (78, .iaload, 1), (79, .ishl, 1), (80, .ior, 1), (81, .istore 4, 2), (83, .iinc 5 1, 3), (86, .goto (-78), 3), (89, .iconst 0, 1), (90, .istore 5, 2), (92, .iconst (-1), 1), (93, .istore 6, 2), (95, .iconst 0, 1), (96, .istore 7, 2), (98, .iload 7, 2), (100, .sipush 256, 3), (103, .if_icmp .ge 61, 3), (106, .iload 7, 2), (108, .bipush 16, 2), (110, .idiv, 1), (111, .istore 8, 2), (113, .iload 8, 2), (115, .iload 7, 2), (117, .bipush 16, 2), (119, .irem, 1), (120, .iload_n 3, 1), (121, .iload 4, 2), (123, .invokestatic 103, 3), (126, .ifCond .eq 32, 3), (129, .iinc 5 1, 3), (132, .iload 6, 2), (134, .iconst (-1), 1), (135, .if_icmp .eq 19, 3), (138, .iload 8, 2), (140, .invokestatic 43, 3), (143, .iload 6, 2), (145, .bipush 16, 2), (147, .idiv, 1), (148, .invokestatic 43, 3), (151, .if_icmp .ge 7, 3), (154, .iload 7, 2), (156, .istore 6, 2), (158, .iinc 7 1, 3), (161, .goto (-63), 3), (164, .iload_n 2, 1), (165, .ifCond .eq 8, 3), (168, .iload 6, 2), (170, .goto 5, 3), (173, .iload 5, 2), (175, .ireturn, 1)]
theorem dc47 : dcs (mC 47) il47 := dc_of (by decide +kernel)
def ridd_locksAnswer_L8  (v1 v2 : Int) (K1 : Int → Int → MM → OR) : Nat → Int → Int → Int → MM → OR
  | 0, _, _, _, _ => none
  | n + 1, v3, v4, v5, M => (bif cmpB .ge v5 v1 then (K1 v3 v4 M) else (bif cmpB .ge ((2 * v5) + 1) 400 then (K1 v3 v4 M) else (bif inB ((2 * v5) + 1) 400 then (bif cmpB .ne (M 2 (((2 * v5) + 1)).toNat) 1 then (bif inB (2 * v5) 400 then (ridd_locksAnswer_L8 v1 v2 K1 n v3 (iOr v4 (iShl 1 (M 2 ((2 * v5)).toNat))) (v5 + 1) M) else none) else (bif inB (2 * v5) 400 then (ridd_locksAnswer_L8 v1 v2 K1 n (iOr v3 (iShl 1 (M 2 ((2 * v5)).toNat))) v4 (v5 + 1) M) else none)) else none)))
set_option maxRecDepth 4000 in
theorem ridd_locksAnswer_L8_ok {Z : Nat × (Nat → Int)} {d : Nat} (hd : 1 ≤ d)  {v1 v2 : Int} {K1 : Int → Int → MM → OR} {res : AR × MM} (k1 : ∀ (x3 x4 : Int) (M : MM) (j0 j1 j5 j6 j7 j8 : AV), K1 x3 x4 M = some res → EX Z d 47 89 [j0, j1, vI v2, vI x3, vI x4, j5, j6, j7, j8] [] M res) : ∀ (n : Nat) (v3 v4 v5 : Int) (M : MM) (j6 j7 j8 : AV), ridd_locksAnswer_L8 v1 v2 K1 n v3 v4 v5 M = some res → EX Z d 47 8 [vR 161, vI v1, vI v2, vI v3, vI v4, vI v5, j6, j7, j8] [] M res := by
  obtain ⟨e9, rfl⟩ : ∃ e9, d = e9 + 1 := ⟨d - 1, by omega⟩
  intro n
  induction n with
  | zero =>
    intro v3 v4 v5 M j6 j7 j8 hf
    unfold ridd_locksAnswer_L8 at hf
    cases hf
  | succ n ih =>
    intro v3 v4 v5 M j6 j7 j8 hf
    unfold ridd_locksAnswer_L8 at hf
    refine ex_pu (ls' := [vR 161, vI v1, vI v2, vI v3, vI v4, vI v5, j6, j7, j8]) (st' := [vI v5]) (dg dc47 6 rfl) rfl rfl ?_
    refine ex_pu (ls' := [vR 161, vI v1, vI v2, vI v3, vI v4, vI v5, j6, j7, j8]) (st' := [vI v1, vI v5]) (dg dc47 7 rfl) rfl rfl ?_
    refine ex_icmp (t := 89) (dg dc47 8 rfl) rfl hf (fun _ hf => ?_) (fun _ hf => ?_)
    · exact k1 v3 v4 M _ _ _ _ _ _ hf
    · refine ex_pu (ls' := [vR 161, vI v1, vI v2, vI v3, vI v4, vI v5, j6, j7, j8]) (st' := [vI 2]) (dg dc47 9 rfl) rfl rfl ?_
      refine ex_pu (ls' := [vR 161, vI v1, vI v2, vI v3, vI v4, vI v5, j6, j7, j8]) (st' := [vI v5, vI 2]) (dg dc47 10 rfl) rfl rfl ?_
      refine ex_pu (ls' := [vR 161, vI v1, vI v2, vI v3, vI v4, vI v5, j6, j7, j8]) (st' := [vI (2 * v5)]) (dg dc47 11 rfl) rfl rfl ?_
      refine ex_pu (ls' := [vR 161, vI v1, vI v2, vI v3, vI v4, vI v5, j6, j7, j8]) (st' := [vI 1, vI (2 * v5)]) (dg dc47 12 rfl) rfl rfl ?_
      refine ex_pu (ls' := [vR 161, vI v1, vI v2, vI v3, vI v4, vI v5, j6, j7, j8]) (st' := [vI ((2 * v5) + 1)]) (dg dc47 13 rfl) rfl rfl ?_
      refine ex_pu (ls' := [vR 161, vI v1, vI v2, vI v3, vI v4, vI v5, j6, j7, j8]) (st' := [vI 400, vI ((2 * v5) + 1)]) (dg dc47 14 rfl) rfl rfl ?_
      refine ex_icmp (t := 89) (dg dc47 15 rfl) rfl hf (fun _ hf => ?_) (fun _ hf => ?_)
      · exact k1 v3 v4 M _ _ _ _ _ _ hf
      · refine ex_pu (ls' := [vR 161, vI v1, vI v2, vI v3, vI v4, vI v5, j6, j7, j8]) (st' := [vR 161]) (dg dc47 16 rfl) rfl rfl ?_
        refine ex_getF (dg dc47 17 rfl) rfl (LOC.st (Nat.le_of_ble_eq_true rfl) rfl) rfl ?_
        refine ex_getO (dg dc47 18 rfl) rfl (LOC.st (Nat.le_of_ble_eq_true rfl) rfl) rfl ?_
        show EX Z _ 47 _ [vR 161, vI v1, vI v2, vI v3, vI v4, vI v5, j6, j7, j8] [vR 2] _ _
        refine ex_pu (ls' := [vR 161, vI v1, vI v2, vI v3, vI v4, vI v5, j6, j7, j8]) (st' := [vI 2, vR 2]) (dg dc47 19 rfl) rfl rfl ?_
        refine ex_pu (ls' := [vR 161, vI v1, vI v2, vI v3, vI v4, vI v5, j6, j7, j8]) (st' := [vI v5, vI 2, vR 2]) (dg dc47 20 rfl) rfl rfl ?_
        refine ex_pu (ls' := [vR 161, vI v1, vI v2, vI v3, vI v4, vI v5, j6, j7, j8]) (st' := [vI (2 * v5), vR 2]) (dg dc47 21 rfl) rfl rfl ?_
        refine ex_pu (ls' := [vR 161, vI v1, vI v2, vI v3, vI v4, vI v5, j6, j7, j8]) (st' := [vI 1, vI (2 * v5), vR 2]) (dg dc47 22 rfl) rfl rfl ?_
        refine ex_pu (ls' := [vR 161, vI v1, vI v2, vI v3, vI v4, vI v5, j6, j7, j8]) (st' := [vI ((2 * v5) + 1), vR 2]) (dg dc47 23 rfl) rfl rfl ?_
        refine ex_iald (dg dc47 24 rfl) (LOC.st (Nat.le_of_ble_eq_true rfl) rfl) rfl hf (fun _ hf => ?_)
        refine ex_pu (ls' := [vR 161, vI v1, vI v2, vI v3, vI v4, vI v5, j6, j7, j8]) (st' := [vI 1, vI (M 2 (((2 * v5) + 1)).toNat)]) (dg dc47 25 rfl) rfl rfl ?_
        refine ex_icmp (t := 64) (dg dc47 26 rfl) rfl hf (fun _ hf => ?_) (fun _ hf => ?_)
        · refine ex_pu (ls' := [vR 161, vI v1, vI v2, vI v3, vI v4, vI v5, j6, j7, j8]) (st' := [vI v4]) (dg dc47 40 rfl) rfl rfl ?_
          refine ex_pu (ls' := [vR 161, vI v1, vI v2, vI v3, vI v4, vI v5, j6, j7, j8]) (st' := [vI 1, vI v4]) (dg dc47 41 rfl) rfl rfl ?_
          refine ex_pu (ls' := [vR 161, vI v1, vI v2, vI v3, vI v4, vI v5, j6, j7, j8]) (st' := [vR 161, vI 1, vI v4]) (dg dc47 42 rfl) rfl rfl ?_
          refine ex_getF (dg dc47 43 rfl) rfl (LOC.st (Nat.le_of_ble_eq_true rfl) rfl) rfl ?_
          refine ex_getO (dg dc47 44 rfl) rfl (LOC.st (Nat.le_of_ble_eq_true rfl) rfl) rfl ?_
          show EX Z _ 47 _ [vR 161, vI v1, vI v2, vI v3, vI v4, vI v5, j6, j7, j8] [vR 2, vI 1, vI v4] _ _
          refine ex_pu (ls' := [vR 161, vI v1, vI v2, vI v3, vI v4, vI v5, j6, j7, j8]) (st' := [vI 2, vR 2, vI 1, vI v4]) (dg dc47 45 rfl) rfl rfl ?_
          refine ex_pu (ls' := [vR 161, vI v1, vI v2, vI v3, vI v4, vI v5, j6, j7, j8]) (st' := [vI v5, vI 2, vR 2, vI 1, vI v4]) (dg dc47 46 rfl) rfl rfl ?_
          refine ex_pu (ls' := [vR 161, vI v1, vI v2, vI v3, vI v4, vI v5, j6, j7, j8]) (st' := [vI (2 * v5), vR 2, vI 1, vI v4]) (dg dc47 47 rfl) rfl rfl ?_
          refine ex_iald (dg dc47 48 rfl) (LOC.st (Nat.le_of_ble_eq_true rfl) rfl) rfl hf (fun _ hf => ?_)
          refine ex_pu (ls' := [vR 161, vI v1, vI v2, vI v3, vI v4, vI v5, j6, j7, j8]) (st' := [vI (iShl 1 (M 2 ((2 * v5)).toNat)), vI v4]) (dg dc47 49 rfl) rfl rfl ?_
          refine ex_pu (ls' := [vR 161, vI v1, vI v2, vI v3, vI v4, vI v5, j6, j7, j8]) (st' := [vI (iOr v4 (iShl 1 (M 2 ((2 * v5)).toNat)))]) (dg dc47 50 rfl) rfl rfl ?_
          refine ex_pu (ls' := [vR 161, vI v1, vI v2, vI v3, vI (iOr v4 (iShl 1 (M 2 ((2 * v5)).toNat))), vI v5, j6, j7, j8]) (st' := []) (dg dc47 51 rfl) rfl rfl ?_
          refine ex_pu (ls' := [vR 161, vI v1, vI v2, vI v3, vI (iOr v4 (iShl 1 (M 2 ((2 * v5)).toNat))), vI (v5 + 1), j6, j7, j8]) (st' := []) (dg dc47 52 rfl) rfl rfl ?_
          refine ex_goto (t := 8) (dg dc47 53 rfl) rfl rfl ?_
          exact ih v3 (iOr v4 (iShl 1 (M 2 ((2 * v5)).toNat))) (v5 + 1) M _ _ _ hf
        · refine ex_pu (ls' := [vR 161, vI v1, vI v2, vI v3, vI v4, vI v5, j6, j7, j8]) (st' := [vI v3]) (dg dc47 27 rfl) rfl rfl ?_
          refine ex_pu (ls' := [vR 161, vI v1, vI v2, vI v3, vI v4, vI v5, j6, j7, j8]) (st' := [vI 1, vI v3]) (dg dc47 28 rfl) rfl rfl ?_
          refine ex_pu (ls' := [vR 161, vI v1, vI v2, vI v3, vI v4, vI v5, j6, j7, j8]) (st' := [vR 161, vI 1, vI v3]) (dg dc47 29 rfl) rfl rfl ?_
          refine ex_getF (dg dc47 30 rfl) rfl (LOC.st (Nat.le_of_ble_eq_true rfl) rfl) rfl ?_
          refine ex_getO (dg dc47 31 rfl) rfl (LOC.st (Nat.le_of_ble_eq_true rfl) rfl) rfl ?_
          show EX Z _ 47 _ [vR 161, vI v1, vI v2, vI v3, vI v4, vI v5, j6, j7, j8] [vR 2, vI 1, vI v3] _ _
          refine ex_pu (ls' := [vR 161, vI v1, vI v2, vI v3, vI v4, vI v5, j6, j7, j8]) (st' := [vI 2, vR 2, vI 1, vI v3]) (dg dc47 32 rfl) rfl rfl ?_
          refine ex_pu (ls' := [vR 161, vI v1, vI v2, vI v3, vI v4, vI v5, j6, j7, j8]) (st' := [vI v5, vI 2, vR 2, vI 1, vI v3]) (dg dc47 33 rfl) rfl rfl ?_
          refine ex_pu (ls' := [vR 161, vI v1, vI v2, vI v3, vI v4, vI v5, j6, j7, j8]) (st' := [vI (2 * v5), vR 2, vI 1, vI v3]) (dg dc47 34 rfl) rfl rfl ?_
          refine ex_iald (dg dc47 35 rfl) (LOC.st (Nat.le_of_ble_eq_true rfl) rfl) rfl hf (fun _ hf => ?_)
          refine ex_pu (ls' := [vR 161, vI v1, vI v2, vI v3, vI v4, vI v5, j6, j7, j8]) (st' := [vI (iShl 1 (M 2 ((2 * v5)).toNat)), vI v3]) (dg dc47 36 rfl) rfl rfl ?_
          refine ex_pu (ls' := [vR 161, vI v1, vI v2, vI v3, vI v4, vI v5, j6, j7, j8]) (st' := [vI (iOr v3 (iShl 1 (M 2 ((2 * v5)).toNat)))]) (dg dc47 37 rfl) rfl rfl ?_
          refine ex_pu (ls' := [vR 161, vI v1, vI v2, vI (iOr v3 (iShl 1 (M 2 ((2 * v5)).toNat))), vI v4, vI v5, j6, j7, j8]) (st' := []) (dg dc47 38 rfl) rfl rfl ?_
          refine ex_goto (t := 83) (dg dc47 39 rfl) rfl rfl ?_
          refine ex_pu (ls' := [vR 161, vI v1, vI v2, vI (iOr v3 (iShl 1 (M 2 ((2 * v5)).toNat))), vI v4, vI (v5 + 1), j6, j7, j8]) (st' := []) (dg dc47 52 rfl) rfl rfl ?_
          refine ex_goto (t := 8) (dg dc47 53 rfl) rfl rfl ?_
          exact ih (iOr v3 (iShl 1 (M 2 ((2 * v5)).toNat))) v4 (v5 + 1) M _ _ _ hf
def ridd_locksAnswer_L98  (v2 v3 v4 : Int) (K1 : Int → Int → MM → OR) : Nat → Int → Int → Int → MM → OR
  | 0, _, _, _, _ => none
  | n + 1, v5, v6, v7, M => (bif cmpB .ge v7 256 then (K1 v5 v6 M) else (bI (ridd_agrees ((w32 v7).tdiv (w32 16)) ((w32 v7).tmod (w32 16)) v3 v4 M) fun z_12 M_11 => (bif cmpB .eq z_12 0 then (ridd_locksAnswer_L98 v2 v3 v4 K1 n v5 v6 (v7 + 1) M_11) else (bif cmpB .eq v6 (-1) then (ridd_locksAnswer_L98 v2 v3 v4 K1 n (v5 + 1) v7 (v7 + 1) M_11) else (bI (jdk_bitCount ((w32 v7).tdiv (w32 16)) M_11) fun z_15 M_14 => (bI (jdk_bitCount ((w32 v6).tdiv (w32 16)) M_14) fun z_18 M_17 => (bif cmpB .ge z_15 z_18 then (ridd_locksAnswer_L98 v2 v3 v4 K1 n (v5 + 1) v6 (v7 + 1) M_17) else (ridd_locksAnswer_L98 v2 v3 v4 K1 n (v5 + 1) v7 (v7 + 1) M_17))))))))
set_option maxRecDepth 4000 in
theorem ridd_locksAnswer_L98_ok {Z : Nat × (Nat → Int)} {d : Nat} (hd : 1 ≤ d)  {v2 v3 v4 : Int} {K1 : Int → Int → MM → OR} {res : AR × MM} (k1 : ∀ (x5 x6 : Int) (M : MM) (j0 j1 j3 j4 j7 j8 : AV), K1 x5 x6 M = some res → EX Z d 47 164 [j0, j1, vI v2, j3, j4, vI x5, vI x6, j7, j8] [] M res) : ∀ (n : Nat) (v5 v6 v7 : Int) (M : MM) (j0 j1 j8 : AV), ridd_locksAnswer_L98 v2 v3 v4 K1 n v5 v6 v7 M = some res → EX Z d 47 98 [j0, j1, vI v2, vI v3, vI v4, vI v5, vI v6, vI v7, j8] [] M res := by
  obtain ⟨e9, rfl⟩ : ∃ e9, d = e9 + 1 := ⟨d - 1, by omega⟩
  intro n
  induction n with
  | zero =>
    intro v5 v6 v7 M j0 j1 j8 hf
    unfold ridd_locksAnswer_L98 at hf
    cases hf
  | succ n ih =>
    intro v5 v6 v7 M j0 j1 j8 hf
    unfold ridd_locksAnswer_L98 at hf
    refine ex_pu (ls' := [j0, j1, vI v2, vI v3, vI v4, vI v5, vI v6, vI v7, j8]) (st' := [vI v7]) (dg dc47 60 rfl) rfl rfl ?_
    refine ex_pu (ls' := [j0, j1, vI v2, vI v3, vI v4, vI v5, vI v6, vI v7, j8]) (st' := [vI 256, vI v7]) (dg dc47 61 rfl) rfl rfl ?_
    refine ex_icmp (t := 164) (dg dc47 62 rfl) rfl hf (fun _ hf => ?_) (fun _ hf => ?_)
    · exact k1 v5 v6 M _ _ _ _ _ _ hf
    · refine ex_pu (ls' := [j0, j1, vI v2, vI v3, vI v4, vI v5, vI v6, vI v7, j8]) (st' := [vI v7]) (dg dc47 63 rfl) rfl rfl ?_
      refine ex_pu (ls' := [j0, j1, vI v2, vI v3, vI v4, vI v5, vI v6, vI v7, j8]) (st' := [vI 16, vI v7]) (dg dc47 64 rfl) rfl rfl ?_
      refine ex_idiv (dg dc47 65 rfl) (by decide +kernel) ?_
      refine ex_pu (ls' := [j0, j1, vI v2, vI v3, vI v4, vI v5, vI v6, vI v7, vI ((w32 v7).tdiv (w32 16))]) (st' := []) (dg dc47 66 rfl) rfl rfl ?_
      refine ex_pu (ls' := [j0, j1, vI v2, vI v3, vI v4, vI v5, vI v6, vI v7, vI ((w32 v7).tdiv (w32 16))]) (st' := [vI ((w32 v7).tdiv (w32 16))]) (dg dc47 67 rfl) rfl rfl ?_
      refine ex_pu (ls' := [j0, j1, vI v2, vI v3, vI v4, vI v5, vI v6, vI v7, vI ((w32 v7).tdiv (w32 16))]) (st' := [vI v7, vI ((w32 v7).tdiv (w32 16))]) (dg dc47 68 rfl) rfl rfl ?_
      refine ex_pu (ls' := [j0, j1, vI v2, vI v3, vI v4, vI v5, vI v6, vI v7, vI ((w32 v7).tdiv (w32 16))]) (st' := [vI 16, vI v7, vI ((w32 v7).tdiv (w32 16))]) (dg dc47 69 rfl) rfl rfl ?_
      refine ex_irem (dg dc47 70 rfl) (by decide +kernel) ?_
      refine ex_pu (ls' := [j0, j1, vI v2, vI v3, vI v4, vI v5, vI v6, vI v7, vI ((w32 v7).tdiv (w32 16))]) (st' := [vI v3, vI ((w32 v7).tmod (w32 16)), vI ((w32 v7).tdiv (w32 16))]) (dg dc47 71 rfl) rfl rfl ?_
      refine ex_pu (ls' := [j0, j1, vI v2, vI v3, vI v4, vI v5, vI v6, vI v7, vI ((w32 v7).tdiv (w32 16))]) (st' := [vI v4, vI v3, vI ((w32 v7).tmod (w32 16)), vI ((w32 v7).tdiv (w32 16))]) (dg dc47 72 rfl) rfl rfl ?_
      refine ex_cI (vs := [vI ((w32 v7).tdiv (w32 16)), vI ((w32 v7).tmod (w32 16)), vI v3, vI v4]) (st' := []) (F := (ridd_agrees ((w32 v7).tdiv (w32 16)) ((w32 v7).tmod (w32 16)) v3 v4 M)) (Or.inl ⟨rfl, (dg dc47 73 rfl)⟩) rfl rfl (Or.inl rfl) rfl (fun _ r9 => ridd_agrees_ok (Z := Z) (d := e9) (by omega)  r9) hf (fun z_12 M_11 he_10 hf => ?_)
      refine ex_if (t := 158) (dg dc47 74 rfl) rfl hf (fun _ hf => ?_) (fun _ hf => ?_)
      · refine ex_pu (ls' := [j0, j1, vI v2, vI v3, vI v4, vI v5, vI v6, vI (v7 + 1), vI ((w32 v7).tdiv (w32 16))]) (st' := []) (dg dc47 88 rfl) rfl rfl ?_
        refine ex_goto (t := 98) (dg dc47 89 rfl) rfl rfl ?_
        exact ih v5 v6 (v7 + 1) M_11 _ _ _ hf
      · refine ex_pu (ls' := [j0, j1, vI v2, vI v3, vI v4, vI (v5 + 1), vI v6, vI v7, vI ((w32 v7).tdiv (w32 16))]) (st' := []) (dg dc47 75 rfl) rfl rfl ?_
        refine ex_pu (ls' := [j0, j1, vI v2, vI v3, vI v4, vI (v5 + 1), vI v6, vI v7, vI ((w32 v7).tdiv (w32 16))]) (st' := [vI v6]) (dg dc47 76 rfl) rfl rfl ?_
        refine ex_pu (ls' := [j0, j1, vI v2, vI v3, vI v4, vI (v5 + 1), vI v6, vI v7, vI ((w32 v7).tdiv (w32 16))]) (st' := [vI (-1), vI v6]) (dg dc47 77 rfl) rfl rfl ?_
        refine ex_icmp (t := 154) (dg dc47 78 rfl) rfl hf (fun _ hf => ?_) (fun _ hf => ?_)
        · refine ex_pu (ls' := [j0, j1, vI v2, vI v3, vI v4, vI (v5 + 1), vI v6, vI v7, vI ((w32 v7).tdiv (w32 16))]) (st' := [vI v7]) (dg dc47 86 rfl) rfl rfl ?_
          refine ex_pu (ls' := [j0, j1, vI v2, vI v3, vI v4, vI (v5 + 1), vI v7, vI v7, vI ((w32 v7).tdiv (w32 16))]) (st' := []) (dg dc47 87 rfl) rfl rfl ?_
          refine ex_pu (ls' := [j0, j1, vI v2, vI v3, vI v4, vI (v5 + 1), vI v7, vI (v7 + 1), vI ((w32 v7).tdiv (w32 16))]) (st' := []) (dg dc47 88 rfl) rfl rfl ?_
          refine ex_goto (t := 98) (dg dc47 89 rfl) rfl rfl ?_
          exact ih (v5 + 1) v7 (v7 + 1) M_11 _ _ _ hf
        · refine ex_pu (ls' := [j0, j1, vI v2, vI v3, vI v4, vI (v5 + 1), vI v6, vI v7, vI ((w32 v7).tdiv (w32 16))]) (st' := [vI ((w32 v7).tdiv (w32 16))]) (dg dc47 79 rfl) rfl rfl ?_
          refine ex_cI (vs := [vI ((w32 v7).tdiv (w32 16))]) (st' := []) (F := (jdk_bitCount ((w32 v7).tdiv (w32 16)) M_11)) (Or.inl ⟨rfl, (dg dc47 80 rfl)⟩) rfl rfl (Or.inl rfl) rfl (fun _ r9 => jdk_bitCount_ok (Z := Z) (d := e9) (by omega)  r9) hf (fun z_15 M_14 he_13 hf => ?_)
          refine ex_pu (ls' := [j0, j1, vI v2, vI v3, vI v4, vI (v5 + 1), vI v6, vI v7, vI ((w32 v7).tdiv (w32 16))]) (st' := [vI v6, vI z_15]) (dg dc47 81 rfl) rfl rfl ?_
          refine ex_pu (ls' := [j0, j1, vI v2, vI v3, vI v4, vI (v5 + 1), vI v6, vI v7, vI ((w32 v7).tdiv (w32 16))]) (st' := [vI 16, vI v6, vI z_15]) (dg dc47 82 rfl) rfl rfl ?_
          refine ex_idiv (dg dc47 83 rfl) (by decide +kernel) ?_
          refine ex_cI (vs := [vI ((w32 v6).tdiv (w32 16))]) (st' := [vI z_15]) (F := (jdk_bitCount ((w32 v6).tdiv (w32 16)) M_14)) (Or.inl ⟨rfl, (dg dc47 84 rfl)⟩) rfl rfl (Or.inl rfl) rfl (fun _ r9 => jdk_bitCount_ok (Z := Z) (d := e9) (by omega)  r9) hf (fun z_18 M_17 he_16 hf => ?_)
          refine ex_icmp (t := 158) (dg dc47 85 rfl) rfl hf (fun _ hf => ?_) (fun _ hf => ?_)
          · refine ex_pu (ls' := [j0, j1, vI v2, vI v3, vI v4, vI (v5 + 1), vI v6, vI (v7 + 1), vI ((w32 v7).tdiv (w32 16))]) (st' := []) (dg dc47 88 rfl) rfl rfl ?_
            refine ex_goto (t := 98) (dg dc47 89 rfl) rfl rfl ?_
            exact ih (v5 + 1) v6 (v7 + 1) M_17 _ _ _ hf
          · refine ex_pu (ls' := [j0, j1, vI v2, vI v3, vI v4, vI (v5 + 1), vI v6, vI v7, vI ((w32 v7).tdiv (w32 16))]) (st' := [vI v7]) (dg dc47 86 rfl) rfl rfl ?_
            refine ex_pu (ls' := [j0, j1, vI v2, vI v3, vI v4, vI (v5 + 1), vI v7, vI v7, vI ((w32 v7).tdiv (w32 16))]) (st' := []) (dg dc47 87 rfl) rfl rfl ?_
            refine ex_pu (ls' := [j0, j1, vI v2, vI v3, vI v4, vI (v5 + 1), vI v7, vI (v7 + 1), vI ((w32 v7).tdiv (w32 16))]) (st' := []) (dg dc47 88 rfl) rfl rfl ?_
            refine ex_goto (t := 98) (dg dc47 89 rfl) rfl rfl ?_
            exact ih (v5 + 1) v7 (v7 + 1) M_17 _ _ _ hf
def ridd_locksAnswer_J89   (v2 v3 v4 : Int) (M : MM) : OR :=
  (ridd_locksAnswer_L98 v2 v3 v4 (fun v5_19 v6_20 M_21 => (bif cmpB .eq v2 0 then some (rI v5_19, M_21) else some (rI v6_20, M_21))) FU 0 (-1) 0 M)
set_option maxRecDepth 4000 in
theorem ridd_locksAnswer_J89_ok {Z : Nat × (Nat → Int)} {d : Nat} (hd : 1 ≤ d)   {res : AR × MM}  : ∀ (v2 v3 v4 : Int) (M : MM) (j0 j1 j5 j6 j7 j8 : AV), ridd_locksAnswer_J89   v2 v3 v4 M = some res → EX Z d 47 89 [j0, j1, vI v2, vI v3, vI v4, j5, j6, j7, j8] [] M res := by
  obtain ⟨e9, rfl⟩ : ∃ e9, d = e9 + 1 := ⟨d - 1, by omega⟩
  intro v2 v3 v4 M j0 j1 j5 j6 j7 j8 hf
  unfold ridd_locksAnswer_J89 at hf
  refine ex_pu (ls' := [j0, j1, vI v2, vI v3, vI v4, j5, j6, j7, j8]) (st' := [vI 0]) (dg dc47 54 rfl) rfl rfl ?_
  refine ex_pu (ls' := [j0, j1, vI v2, vI v3, vI v4, vI 0, j6, j7, j8]) (st' := []) (dg dc47 55 rfl) rfl rfl ?_
  refine ex_pu (ls' := [j0, j1, vI v2, vI v3, vI v4, vI 0, j6, j7, j8]) (st' := [vI (-1)]) (dg dc47 56 rfl) rfl rfl ?_
  refine ex_pu (ls' := [j0, j1, vI v2, vI v3, vI v4, vI 0, vI (-1), j7, j8]) (st' := []) (dg dc47 57 rfl) rfl rfl ?_
  refine ex_pu (ls' := [j0, j1, vI v2, vI v3, vI v4, vI 0, vI (-1), j7, j8]) (st' := [vI 0]) (dg dc47 58 rfl) rfl rfl ?_
  refine ex_pu (ls' := [j0, j1, vI v2, vI v3, vI v4, vI 0, vI (-1), vI 0, j8]) (st' := []) (dg dc47 59 rfl) rfl rfl ?_
  refine ridd_locksAnswer_L98_ok hd  ?_ FU 0 (-1) 0 M _ _ _ hf
  · intro v5_19 v6_20 M_21 j0_22 j1_23 j3_24 j4_25 j7_26 j8_27 hf
    refine ex_pu (ls' := [j0_22, j1_23, vI v2, j3_24, j4_25, vI v5_19, vI v6_20, j7_26, j8_27]) (st' := [vI v2]) (dg dc47 90 rfl) rfl rfl ?_
    refine ex_if (t := 173) (dg dc47 91 rfl) rfl hf (fun _ hf => ?_) (fun _ hf => ?_)
    · refine ex_pu (ls' := [j0_22, j1_23, vI v2, j3_24, j4_25, vI v5_19, vI v6_20, j7_26, j8_27]) (st' := [vI v5_19]) (dg dc47 94 rfl) rfl rfl ?_
      exact ex_ire (dg dc47 95 rfl) rfl hf
    · refine ex_pu (ls' := [j0_22, j1_23, vI v2, j3_24, j4_25, vI v5_19, vI v6_20, j7_26, j8_27]) (st' := [vI v6_20]) (dg dc47 92 rfl) rfl rfl ?_
      refine ex_goto (t := 175) (dg dc47 93 rfl) rfl rfl ?_
      exact ex_ire (dg dc47 95 rfl) rfl hf
def ridd_locksAnswer (v1 : Int) (v2 : Int) (M : MM) : OR :=
  (ridd_locksAnswer_L8 v1 v2 (fun v3_1 v4_2 M_3 => (ridd_locksAnswer_J89   v2 v3_1 v4_2 M_3)) FU 0 0 0 M)
set_option maxRecDepth 4000 in
theorem ridd_locksAnswer_ok {Z : Nat × (Nat → Int)} {d : Nat} (hd : 1 ≤ d) {M : MM}  {v1 v2 : Int} {res : AR × MM} (hf : ridd_locksAnswer v1 v2 M = some res) : EX Z d 47 0 (ent 47 [vR 161, vI v1, vI v2]) [] M res := by
  obtain ⟨e9, rfl⟩ : ∃ e9, d = e9 + 1 := ⟨d - 1, by omega⟩
  unfold ridd_locksAnswer at hf
  show EX Z _ 47 0 [vR 161, vI v1, vI v2, vU, vU, vU, vU, vU, vU] [] M res
  refine ex_pu (ls' := [vR 161, vI v1, vI v2, vU, vU, vU, vU, vU, vU]) (st' := [vI 0]) (dg dc47 0 rfl) rfl rfl ?_
  refine ex_pu (ls' := [vR 161, vI v1, vI v2, vI 0, vU, vU, vU, vU, vU]) (st' := []) (dg dc47 1 rfl) rfl rfl ?_
  refine ex_pu (ls' := [vR 161, vI v1, vI v2, vI 0, vU, vU, vU, vU, vU]) (st' := [vI 0]) (dg dc47 2 rfl) rfl rfl ?_
  refine ex_pu (ls' := [vR 161, vI v1, vI v2, vI 0, vI 0, vU, vU, vU, vU]) (st' := []) (dg dc47 3 rfl) rfl rfl ?_
  refine ex_pu (ls' := [vR 161, vI v1, vI v2, vI 0, vI 0, vU, vU, vU, vU]) (st' := [vI 0]) (dg dc47 4 rfl) rfl rfl ?_
  refine ex_pu (ls' := [vR 161, vI v1, vI v2, vI 0, vI 0, vI 0, vU, vU, vU]) (st' := []) (dg dc47 5 rfl) rfl rfl ?_
  refine ridd_locksAnswer_L8_ok hd  ?_ FU 0 0 0 M _ _ _ hf
  · intro v3_1 v4_2 M_3 j0_4 j1_5 j5_6 j6_7 j7_8 j8_9 hf
    exact ridd_locksAnswer_J89_ok hd   v2 v3_1 v4_2 M_3 _ _ _ _ _ _ hf
-- GlassHill$Search.prepare
def il53 : List (Nat × Instr × Nat) := [(0, .aload_n 0, 1), (1, .iconst 0, 1), (2, .putfield 11, 3), (5, .aload_n 0, 1), (6, .iconst 0, 1), (7, .putfield 15, 3), (10, .aload_n 0, 1), (11, .getfield 26, 3), (14, .iconst 0, 1), (15, .invokestatic 96, 3), (18, .iconst 0, 1), (19, .istore_n 1, 1), (20, .iload_n 1, 1), (21, .bipush 17, 2), (23, .if_icmp .ge 23, 3), (26, .aload_n 0, 1), (27, .getfield 30, 3), (30, .iload_n 1, 1), (31, .aload_n 0, 1), (32, .getfield 36, 3), (35, .iload_n 1, 1), (36, .invokevirtual 102, 3), (39, .iastore, 1), (40, .iinc 1 1, 3), (43, .goto (-23), 3), (46, .iconst 0, 1), (47, .istore_n 1, 1), (48, .iload_n 1, 1), (49, .bipush 10, 2), (51, .if_icmp .ge 23, 3), (54, .aload_n 0, 1), (55, .getfield 33, 3), (58, .iload_n 1, 1), (59, .aload_n 0, 1), (60, .getfield 40, 3), (63, .iload_n 1, 1), (64, .invokevirtual 107, 3), (67, .iastore, 1), (68, .iinc 1 1, 3), (71, .goto (-23), 3), (74, .return_, 1)]
theorem dc53 : dcs (mC 53) il53 := dc_of (by decide +kernel)
def srch_prepare_L20 (q : Nat) (K1 : MM → OR) : Nat → Int → MM → OR
  | 0, _, _ => none
  | n + 1, v1, M => (bif cmpB .ge v1 17 then (K1  M) else (bI (land_openers 3 v1 M) fun z_13 M_12 => (bif inB v1 17 then (sM (mU M_12 1003 (v1).toNat z_13) fun M_15 => (srch_prepare_L20 q K1 n (v1 + 1) M_15)) else none)))
set_option maxRecDepth 4000 in
theorem srch_prepare_L20_ok {Z : Nat × (Nat → Int)} {d : Nat} (hd : 3 ≤ d) {q : Nat} (h0 : q ≠ 0) {K1 : MM → OR} {res : AR × MM} (k1 : ∀ (M : MM) (j1 : AV), M 0 17 = (q : Int) → K1  M = some res → EX Z d 53 46 [vR q, j1] [] M res) : ∀ (n : Nat) (v1 : Int) (M : MM), M 0 17 = (q : Int) → srch_prepare_L20 q K1 n v1 M = some res → EX Z d 53 20 [vR q, vI v1] [] M res := by
  obtain ⟨e9, rfl⟩ : ∃ e9, d = e9 + 1 := ⟨d - 1, by omega⟩
  have hq0 : (q : Int) ≠ 0 := by omega
  intro n
  induction n with
  | zero =>
    intro v1 M hq hf
    unfold srch_prepare_L20 at hf
    cases hf
  | succ n ih =>
    intro v1 M hq hf
    unfold srch_prepare_L20 at hf
    refine ex_pu (ls' := [vR q, vI v1]) (st' := [vI v1]) (dg dc53 12 rfl) rfl rfl ?_
    refine ex_pu (ls' := [vR q, vI v1]) (st' := [vI 17, vI v1]) (dg dc53 13 rfl) rfl rfl ?_
    refine ex_icmp (t := 46) (dg dc53 14 rfl) rfl hf (fun _ hf => ?_) (fun _ hf => ?_)
    · exact k1  M _ hq hf
    · refine ex_pu (ls' := [vR q, vI v1]) (st' := [vR q]) (dg dc53 15 rfl) rfl rfl ?_
      refine ex_getO (dg dc53 16 rfl) rfl (LOC.sr (j := 0) hq h0 (by decide) rfl) rfl ?_
      show EX Z _ 53 _ [vR q, vI v1] [vR (q + 3)] _ _
      refine ex_pu (ls' := [vR q, vI v1]) (st' := [vI v1, vR (q + 3)]) (dg dc53 17 rfl) rfl rfl ?_
      refine ex_pu (ls' := [vR q, vI v1]) (st' := [vR q, vI v1, vR (q + 3)]) (dg dc53 18 rfl) rfl rfl ?_
      refine ex_getF (dg dc53 19 rfl) rfl (LOC.sr (j := 0) hq h0 (by decide) rfl) rfl ?_
      refine ex_pu (ls' := [vR q, vI v1]) (st' := [vI v1, vR 3, vI v1, vR (q + 3)]) (dg dc53 20 rfl) rfl rfl ?_
      refine ex_cI (vs := [vR 3, vI v1]) (st' := [vI v1, vR (q + 3)]) (F := (land_openers 3 v1 M)) (Or.inr (Or.inl ⟨rfl, (dg dc53 21 rfl)⟩)) rfl rfl (rk1 (LOC.st (Nat.le_of_ble_eq_true rfl) rfl) rfl) rfl (fun _ r9 => land_openers_ok (Z := Z) (d := e9) (by omega) isLand3  r9) hf (fun z_13 M_12 he_11 hf => ?_)
      have hq_14 : M_12 0 17 = (q : Int) := ((land_openers_ok (Z := Z) (d := e9) (by omega) isLand3  he_11).1 (by rw [hq]; exact hq0)).trans hq
      refine ex_iast (dg dc53 22 rfl) (LOC.sr (j := 3) hq_14 h0 (by decide) rfl) rfl rfl hf (fun _ hf => ?_)
      refine ex_gen hf (fun M_15 hM_16 hf => ?_)
      have hq_17 : M_15 0 17 = (q : Int) := by rw [hM_16]; exact hq_14
      refine ex_pu (ls' := [vR q, vI (v1 + 1)]) (st' := []) (dg dc53 23 rfl) rfl rfl ?_
      refine ex_goto (t := 20) (dg dc53 24 rfl) rfl rfl ?_
      exact ih (v1 + 1) M_15 hq_17 hf
def srch_prepare_L48 (q : Nat) (K1 : MM → OR) : Nat → Int → MM → OR
  | 0, _, _ => none
  | n + 1, v1, M => (bif cmpB .ge v1 10 then (K1  M) else (bI (jny_lying 23 v1 M) fun z_23 M_22 => (bif inB v1 10 then (sM (mU M_22 1004 (v1).toNat z_23) fun M_25 => (srch_prepare_L48 q K1 n (v1 + 1) M_25)) else none)))
set_option maxRecDepth 4000 in
theorem srch_prepare_L48_ok {Z : Nat × (Nat → Int)} {d : Nat} (hd : 3 ≤ d) {q : Nat} (h0 : q ≠ 0) {K1 : MM → OR} {res : AR × MM} (k1 : ∀ (M : MM) (j0 j1 : AV), M 0 17 = (q : Int) → K1  M = some res → EX Z d 53 74 [j0, j1] [] M res) : ∀ (n : Nat) (v1 : Int) (M : MM), M 0 17 = (q : Int) → srch_prepare_L48 q K1 n v1 M = some res → EX Z d 53 48 [vR q, vI v1] [] M res := by
  obtain ⟨e9, rfl⟩ : ∃ e9, d = e9 + 1 := ⟨d - 1, by omega⟩
  have hq0 : (q : Int) ≠ 0 := by omega
  intro n
  induction n with
  | zero =>
    intro v1 M hq hf
    unfold srch_prepare_L48 at hf
    cases hf
  | succ n ih =>
    intro v1 M hq hf
    unfold srch_prepare_L48 at hf
    refine ex_pu (ls' := [vR q, vI v1]) (st' := [vI v1]) (dg dc53 27 rfl) rfl rfl ?_
    refine ex_pu (ls' := [vR q, vI v1]) (st' := [vI 10, vI v1]) (dg dc53 28 rfl) rfl rfl ?_
    refine ex_icmp (t := 74) (dg dc53 29 rfl) rfl hf (fun _ hf => ?_) (fun _ hf => ?_)
    · exact k1  M _ _ hq hf
    · refine ex_pu (ls' := [vR q, vI v1]) (st' := [vR q]) (dg dc53 30 rfl) rfl rfl ?_
      refine ex_getO (dg dc53 31 rfl) rfl (LOC.sr (j := 0) hq h0 (by decide) rfl) rfl ?_
      show EX Z _ 53 _ [vR q, vI v1] [vR (q + 4)] _ _
      refine ex_pu (ls' := [vR q, vI v1]) (st' := [vI v1, vR (q + 4)]) (dg dc53 32 rfl) rfl rfl ?_
      refine ex_pu (ls' := [vR q, vI v1]) (st' := [vR q, vI v1, vR (q + 4)]) (dg dc53 33 rfl) rfl rfl ?_
      refine ex_getF (dg dc53 34 rfl) rfl (LOC.sr (j := 0) hq h0 (by decide) rfl) rfl ?_
      refine ex_pu (ls' := [vR q, vI v1]) (st' := [vI v1, vR 23, vI v1, vR (q + 4)]) (dg dc53 35 rfl) rfl rfl ?_
      refine ex_cI (vs := [vR 23, vI v1]) (st' := [vI v1, vR (q + 4)]) (F := (jny_lying 23 v1 M)) (Or.inr (Or.inl ⟨rfl, (dg dc53 36 rfl)⟩)) rfl rfl (rk1 (LOC.st (Nat.le_of_ble_eq_true rfl) rfl) rfl) rfl (fun _ r9 => jny_lying_ok (Z := Z) (d := e9) (by omega) isJny23  r9) hf (fun z_23 M_22 he_21 hf => ?_)
      have hq_24 : M_22 0 17 = (q : Int) := ((jny_lying_ok (Z := Z) (d := e9) (by omega) isJny23  he_21).1 (by rw [hq]; exact hq0)).trans hq
      refine ex_iast (dg dc53 37 rfl) (LOC.sr (j := 4) hq_24 h0 (by decide) rfl) rfl rfl hf (fun _ hf => ?_)
      refine ex_gen hf (fun M_25 hM_26 hf => ?_)
      have hq_27 : M_25 0 17 = (q : Int) := by rw [hM_26]; exact hq_24
      refine ex_pu (ls' := [vR q, vI (v1 + 1)]) (st' := []) (dg dc53 38 rfl) rfl rfl ?_
      refine ex_goto (t := 48) (dg dc53 39 rfl) rfl rfl ?_
      exact ih (v1 + 1) M_25 hq_27 hf
def srch_prepare (q : Nat) (M : MM) : OR :=
  (sM (mU M 1000 3 0) fun M_1 => (sM (mU M_1 1000 4 0) fun M_4 => (bV (jdk_fill 1002 16384 0 M_4) fun M_8 => (srch_prepare_L20 q (fun M_18 => (srch_prepare_L48 q (fun M_28 => some (rV, M_28)) FU 0 M_18)) FU 0 M_8))))
set_option maxRecDepth 4000 in
theorem srch_prepare_ok {Z : Nat × (Nat → Int)} {d : Nat} (hd : 3 ≤ d) {M : MM} {q : Nat} (hq : M 0 17 = (q : Int)) (h0 : q ≠ 0) {res : AR × MM} (hf : srch_prepare q M = some res) : EX Z d 53 0 (ent 53 [vR q]) [] M res := by
  obtain ⟨e9, rfl⟩ : ∃ e9, d = e9 + 1 := ⟨d - 1, by omega⟩
  have hq0 : (q : Int) ≠ 0 := by omega
  unfold srch_prepare at hf
  show EX Z _ 53 0 [vR q, vU] [] M res
  refine ex_pu (ls' := [vR q, vU]) (st' := [vR q]) (dg dc53 0 rfl) rfl rfl ?_
  refine ex_pu (ls' := [vR q, vU]) (st' := [vI 0, vR q]) (dg dc53 1 rfl) rfl rfl ?_
  refine ex_putI (dg dc53 2 rfl) rfl (LOC.sr (j := 0) hq h0 (by decide) rfl) rfl rfl rfl ?_
  refine ex_gen hf (fun M_1 hM_2 hf => ?_)
  have hq_3 : M_1 0 17 = (q : Int) := by rw [hM_2]; exact hq
  refine ex_pu (ls' := [vR q, vU]) (st' := [vR q]) (dg dc53 3 rfl) rfl rfl ?_
  refine ex_pu (ls' := [vR q, vU]) (st' := [vI 0, vR q]) (dg dc53 4 rfl) rfl rfl ?_
  refine ex_putI (dg dc53 5 rfl) rfl (LOC.sr (j := 0) hq_3 h0 (by decide) rfl) rfl rfl rfl ?_
  refine ex_gen hf (fun M_4 hM_5 hf => ?_)
  have hq_6 : M_4 0 17 = (q : Int) := by rw [hM_5]; exact hq_3
  refine ex_pu (ls' := [vR q, vU]) (st' := [vR q]) (dg dc53 6 rfl) rfl rfl ?_
  refine ex_getO (dg dc53 7 rfl) rfl (LOC.sr (j := 0) hq_6 h0 (by decide) rfl) rfl ?_
  show EX Z _ 53 _ [vR q, vU] [vR (q + 2)] _ _
  refine ex_pu (ls' := [vR q, vU]) (st' := [vI 0, vR (q + 2)]) (dg dc53 8 rfl) rfl rfl ?_
  refine ex_cV (vs := [vR (q + 2), vI 0]) (st' := []) (F := (jdk_fill 1002 16384 0 M_4)) (Or.inl ⟨rfl, (dg dc53 9 rfl)⟩) rfl rfl (Or.inl rfl) rfl (fun _ r9 => jdk_fill_ok (Z := Z) (d := e9) (LOC.sr (j := 2) hq_6 h0 (by decide) rfl) (by decide) rfl r9) hf (fun M_8 he_7 hf => ?_)
  have hq_10 : M_8 0 17 = (q : Int) := ((jdk_fill_ok (Z := Z) (d := e9) (LOC.sr (j := 2) hq_6 h0 (by decide) rfl) (by decide) rfl he_7).1 (by rw [hq_6]; exact hq0)).trans hq_6
  refine ex_pu (ls' := [vR q, vU]) (st' := [vI 0]) (dg dc53 10 rfl) rfl rfl ?_
  refine ex_pu (ls' := [vR q, vI 0]) (st' := []) (dg dc53 11 rfl) rfl rfl ?_
  refine srch_prepare_L20_ok hd h0 ?_ FU 0 M_8 hq_10 hf
  · intro M_18 j1_20 hq_19 hf
    refine ex_pu (ls' := [vR q, j1_20]) (st' := [vI 0]) (dg dc53 25 rfl) rfl rfl ?_
    refine ex_pu (ls' := [vR q, vI 0]) (st' := []) (dg dc53 26 rfl) rfl rfl ?_
    refine srch_prepare_L48_ok hd h0 ?_ FU 0 M_18 hq_19 hf
    · intro M_28 j0_30 j1_31 hq_29 hf
      exact ex_vre (dg dc53 40 rfl) rfl hf
-- GlassHill$Search.addWait
def il57 : List (Nat × Instr × Nat) := [(0, .aload_n 0, 1), (1, .getfield 63, 3), (4, .bipush 30, 2), (6, .if_icmp .ge 40, 3), (9, .aload_n 0, 1), (10, .getfield 36, 3), (13, .aload_n 0, 1), (14, .getfield 69, 3), (17, .aload_n 0, 1), (18, .getfield 40, 3), (21, .getfield 132, 3), (24, .aload_n 0, 1), (25, .getfield 63, 3), (28, .iadd, 1), (29, .iconst 1, 1), (30, .iadd, 1), (31, .invokevirtual 147, 3), (34, .ifCond .ne 12, 3), (37, .aload_n 0, 1), (38, .lload_n 1, 1), (39, .ldc2_w 151, 3), (42, .ladd, 1), (43, .invokevirtual 55, 3), (46, .return_, 1)]
theorem dc57 : dcs (mC 57) il57 := dc_of (by decide +kernel)
def srch_addWait (q : Nat) (v1 : Int) (M : MM) : OR :=
  (bif cmpB .ge (M 1000 10) 30 then some (rV, M) else (bI (land_eatsAt 3 (M 1000 11) (((M 23 1) + (M 1000 10)) + 1) M) fun z_3 M_2 => (bif cmpB .ne z_3 0 then some (rV, M_2) else (bV (srch_add q (v1 + 72057594037927936) M_2) fun M_6 => some (rV, M_6)))))
set_option maxRecDepth 4000 in
theorem srch_addWait_ok {Z : Nat × (Nat → Int)} {d : Nat} (hd : 3 ≤ d) {M : MM} {q : Nat} (hq : M 0 17 = (q : Int)) (h0 : q ≠ 0) {v1 : Int} {res : AR × MM} (hf : srch_addWait q v1 M = some res) : EX Z d 57 0 (ent 57 [vR q, vJ v1]) [] M res := by
  obtain ⟨e9, rfl⟩ : ∃ e9, d = e9 + 1 := ⟨d - 1, by omega⟩
  have hq0 : (q : Int) ≠ 0 := by omega
  unfold srch_addWait at hf
  show EX Z _ 57 0 [vR q, vJ v1, vU] [] M res
  refine ex_pu (ls' := [vR q, vJ v1, vU]) (st' := [vR q]) (dg dc57 0 rfl) rfl rfl ?_
  refine ex_getI (dg dc57 1 rfl) rfl (LOC.sr (j := 0) hq h0 (by decide) rfl) rfl ?_
  refine ex_pu (ls' := [vR q, vJ v1, vU]) (st' := [vI 30, vI (M 1000 10)]) (dg dc57 2 rfl) rfl rfl ?_
  refine ex_icmp (t := 46) (dg dc57 3 rfl) rfl hf (fun _ hf => ?_) (fun _ hf => ?_)
  · exact ex_vre (dg dc57 23 rfl) rfl hf
  · refine ex_pu (ls' := [vR q, vJ v1, vU]) (st' := [vR q]) (dg dc57 4 rfl) rfl rfl ?_
    refine ex_getF (dg dc57 5 rfl) rfl (LOC.sr (j := 0) hq h0 (by decide) rfl) rfl ?_
    refine ex_pu (ls' := [vR q, vJ v1, vU]) (st' := [vR q, vR 3]) (dg dc57 6 rfl) rfl rfl ?_
    refine ex_getI (dg dc57 7 rfl) rfl (LOC.sr (j := 0) hq h0 (by decide) rfl) rfl ?_
    refine ex_pu (ls' := [vR q, vJ v1, vU]) (st' := [vR q, vI (M 1000 11), vR 3]) (dg dc57 8 rfl) rfl rfl ?_
    refine ex_getF (dg dc57 9 rfl) rfl (LOC.sr (j := 0) hq h0 (by decide) rfl) rfl ?_
    refine ex_getI (dg dc57 10 rfl) rfl (LOC.st (Nat.le_of_ble_eq_true rfl) rfl) rfl ?_
    refine ex_pu (ls' := [vR q, vJ v1, vU]) (st' := [vR q, vI (M 23 1), vI (M 1000 11), vR 3]) (dg dc57 11 rfl) rfl rfl ?_
    refine ex_getI (dg dc57 12 rfl) rfl (LOC.sr (j := 0) hq h0 (by decide) rfl) rfl ?_
    refine ex_pu (ls' := [vR q, vJ v1, vU]) (st' := [vI ((M 23 1) + (M 1000 10)), vI (M 1000 11), vR 3]) (dg dc57 13 rfl) rfl rfl ?_
    refine ex_pu (ls' := [vR q, vJ v1, vU]) (st' := [vI 1, vI ((M 23 1) + (M 1000 10)), vI (M 1000 11), vR 3]) (dg dc57 14 rfl) rfl rfl ?_
    refine ex_pu (ls' := [vR q, vJ v1, vU]) (st' := [vI (((M 23 1) + (M 1000 10)) + 1), vI (M 1000 11), vR 3]) (dg dc57 15 rfl) rfl rfl ?_
    refine ex_cI (vs := [vR 3, vI (M 1000 11), vI (((M 23 1) + (M 1000 10)) + 1)]) (st' := []) (F := (land_eatsAt 3 (M 1000 11) (((M 23 1) + (M 1000 10)) + 1) M)) (Or.inr (Or.inl ⟨rfl, (dg dc57 16 rfl)⟩)) rfl rfl (rk1 (LOC.st (Nat.le_of_ble_eq_true rfl) rfl) rfl) rfl (fun _ r9 => land_eatsAt_ok (Z := Z) (d := e9) (by omega) isLand3  r9) hf (fun z_3 M_2 he_1 hf => ?_)
    have hq_4 : M_2 0 17 = (q : Int) := ((land_eatsAt_ok (Z := Z) (d := e9) (by omega) isLand3  he_1).1 (by rw [hq]; exact hq0)).trans hq
    refine ex_if (t := 46) (dg dc57 17 rfl) rfl hf (fun _ hf => ?_) (fun _ hf => ?_)
    · exact ex_vre (dg dc57 23 rfl) rfl hf
    · refine ex_pu (ls' := [vR q, vJ v1, vU]) (st' := [vR q]) (dg dc57 18 rfl) rfl rfl ?_
      refine ex_pu (ls' := [vR q, vJ v1, vU]) (st' := [vJ v1, vR q]) (dg dc57 19 rfl) rfl rfl ?_
      refine ex_ldc2 (dg dc57 20 rfl) rfl ?_
      refine ex_pu (ls' := [vR q, vJ v1, vU]) (st' := [vJ (v1 + 72057594037927936), vR q]) (dg dc57 21 rfl) rfl rfl ?_
      refine ex_cV (vs := [vR q, vJ (v1 + 72057594037927936)]) (st' := []) (F := (srch_add q (v1 + 72057594037927936) M_2)) (Or.inr (Or.inl ⟨rfl, (dg dc57 22 rfl)⟩)) rfl rfl (rk1 (LOC.sr (j := 0) hq_4 h0 (by decide) rfl) rfl) rfl (fun _ r9 => srch_add_ok (Z := Z) (d := e9) (by omega) hq_4 h0  r9) hf (fun M_6 he_5 hf => ?_)
      have hq_8 : M_6 0 17 = (q : Int) := ((srch_add_ok (Z := Z) (d := e9) (by omega) hq_4 h0  he_5).1 (by rw [hq_4]; exact hq0)).trans hq_4
      exact ex_vre (dg dc57 23 rfl) rfl hf
-- GlassHill$Search.addFrees
def il61 : List (Nat × Instr × Nat) := [(0, .lload_n 1, 1), (1, .invokestatic 178, 3), (4, .istore_n 3, 1), (5, .iconst 0, 1), (6, .istore 4, 2), (8, .iload 4, 2), (10, .aload_n 0, 1), (11, .getfield 36, 3), (14, .getfield 181, 3), (17, .if_icmp .ge 73, 3), (20, .iload 4, 2), (22, .bipush 7, 2), (24, .if_icmp .ge 66, 3), (27, .aload_n 0, 1), (28, .getfield 36, 3), (31, .getfield 184, 3), (34, .iload 4, 2), (36, .iaload, 1), (37, .aload_n 0, 1), (38, .getfield 69, 3), (41, .if_icmp .ne 43, 3), (44, .iload_n 3, 1), (45, .iload 4, 2), (47, .invokestatic 156, 3), (50, .ifCond .ne 34, 3), (53, .aload_n 0, 1), (54, .getfield 30, 3), (57, .bipush 10, 2), (59, .iload 4, 2), (61, .iadd, 1), (62, .iaload, 1), (63, .aload_n 0, 1), (64, .getfield 72, 3), (67, .iand, 1), (68, .ifCond .eq 16, 3), (71, .aload_n 0, 1), (72, .lload_n 1, 1), (73, .lconst 1, 1), (74, .bipush 40, 2), (76, .iload 4, 2), (78, .iadd, 1), (79, .lshl, 1), (80, .lor, 1), (81, .invokevirtual 55, 3), (84, .iinc 4 1, 3), (87, .goto (-79), 3), (90, .return_, 1)]
theorem dc61 : dcs (mC 61) il61 := dc_of (by decide +kernel)
def srch_addFrees_L8 (q : Nat) (v1 v3 : Int) (K1 : MM → OR) : Nat → Int → MM → OR
  | 0, _, _ => none
  | n + 1, v4, M => (bif cmpB .ge v4 (M 3 3) then (K1  M) else (bif cmpB .ge v4 7 then (K1  M) else (bif inB v4 7 then (bif cmpB .ne (M 14 (v4).toNat) (M 1000 11) then (srch_addFrees_L8 q v1 v3 K1 n (v4 + 1) M) else (bI (gh_bit v3 v4 M) fun z_7 M_6 => (bif cmpB .ne z_7 0 then (srch_addFrees_L8 q v1 v3 K1 n (v4 + 1) M_6) else (bif inB (10 + v4) 17 then (bif cmpB .eq (iAnd (M_6 1003 ((10 + v4)).toNat) (M_6 1000 12)) 0 then (srch_addFrees_L8 q v1 v3 K1 n (v4 + 1) M_6) else (bV (srch_add q (lOr v1 (lShl 1 (40 + v4))) M_6) fun M_10 => (srch_addFrees_L8 q v1 v3 K1 n (v4 + 1) M_10))) else none)))) else none)))
set_option maxRecDepth 4000 in
theorem srch_addFrees_L8_ok {Z : Nat × (Nat → Int)} {d : Nat} (hd : 1 ≤ d) {q : Nat} (h0 : q ≠ 0) {v1 v3 : Int} {K1 : MM → OR} {res : AR × MM} (k1 : ∀ (M : MM) (j0 j1 j2 j3 j4 : AV), M 0 17 = (q : Int) → K1  M = some res → EX Z d 61 90 [j0, j1, j2, j3, j4] [] M res) : ∀ (n : Nat) (v4 : Int) (M : MM), M 0 17 = (q : Int) → srch_addFrees_L8 q v1 v3 K1 n v4 M = some res → EX Z d 61 8 [vR q, vJ v1, vU, vI v3, vI v4] [] M res := by
  obtain ⟨e9, rfl⟩ : ∃ e9, d = e9 + 1 := ⟨d - 1, by omega⟩
  have hq0 : (q : Int) ≠ 0 := by omega
  intro n
  induction n with
  | zero =>
    intro v4 M hq hf
    unfold srch_addFrees_L8 at hf
    cases hf
  | succ n ih =>
    intro v4 M hq hf
    unfold srch_addFrees_L8 at hf
    refine ex_pu (ls' := [vR q, vJ v1, vU, vI v3, vI v4]) (st' := [vI v4]) (dg dc61 5 rfl) rfl rfl ?_
    refine ex_pu (ls' := [vR q, vJ v1, vU, vI v3, vI v4]) (st' := [vR q, vI v4]) (dg dc61 6 rfl) rfl rfl ?_
    refine ex_getF (dg dc61 7 rfl) rfl (LOC.sr (j := 0) hq h0 (by decide) rfl) rfl ?_
    refine ex_getI (dg dc61 8 rfl) rfl (LOC.st (Nat.le_of_ble_eq_true rfl) rfl) rfl ?_
    refine ex_icmp (t := 90) (dg dc61 9 rfl) rfl hf (fun _ hf => ?_) (fun _ hf => ?_)
    · exact k1  M _ _ _ _ _ hq hf
    · refine ex_pu (ls' := [vR q, vJ v1, vU, vI v3, vI v4]) (st' := [vI v4]) (dg dc61 10 rfl) rfl rfl ?_
      refine ex_pu (ls' := [vR q, vJ v1, vU, vI v3, vI v4]) (st' := [vI 7, vI v4]) (dg dc61 11 rfl) rfl rfl ?_
      refine ex_icmp (t := 90) (dg dc61 12 rfl) rfl hf (fun _ hf => ?_) (fun _ hf => ?_)
      · exact k1  M _ _ _ _ _ hq hf
      · refine ex_pu (ls' := [vR q, vJ v1, vU, vI v3, vI v4]) (st' := [vR q]) (dg dc61 13 rfl) rfl rfl ?_
        refine ex_getF (dg dc61 14 rfl) rfl (LOC.sr (j := 0) hq h0 (by decide) rfl) rfl ?_
        refine ex_getO (dg dc61 15 rfl) rfl (LOC.st (Nat.le_of_ble_eq_true rfl) rfl) rfl ?_
        show EX Z _ 61 _ [vR q, vJ v1, vU, vI v3, vI v4] [vR 14] _ _
        refine ex_pu (ls' := [vR q, vJ v1, vU, vI v3, vI v4]) (st' := [vI v4, vR 14]) (dg dc61 16 rfl) rfl rfl ?_
        refine ex_iald (dg dc61 17 rfl) (LOC.st (Nat.le_of_ble_eq_true rfl) rfl) rfl hf (fun _ hf => ?_)
        refine ex_pu (ls' := [vR q, vJ v1, vU, vI v3, vI v4]) (st' := [vR q, vI (M 14 (v4).toNat)]) (dg dc61 18 rfl) rfl rfl ?_
        refine ex_getI (dg dc61 19 rfl) rfl (LOC.sr (j := 0) hq h0 (by decide) rfl) rfl ?_
        refine ex_icmp (t := 84) (dg dc61 20 rfl) rfl hf (fun _ hf => ?_) (fun _ hf => ?_)
        · refine ex_pu (ls' := [vR q, vJ v1, vU, vI v3, vI (v4 + 1)]) (st' := []) (dg dc61 44 rfl) rfl rfl ?_
          refine ex_goto (t := 8) (dg dc61 45 rfl) rfl rfl ?_
          exact ih (v4 + 1) M hq hf
        · refine ex_pu (ls' := [vR q, vJ v1, vU, vI v3, vI v4]) (st' := [vI v3]) (dg dc61 21 rfl) rfl rfl ?_
          refine ex_pu (ls' := [vR q, vJ v1, vU, vI v3, vI v4]) (st' := [vI v4, vI v3]) (dg dc61 22 rfl) rfl rfl ?_
          refine ex_cI (vs := [vI v3, vI v4]) (st' := []) (F := (gh_bit v3 v4 M)) (Or.inl ⟨rfl, (dg dc61 23 rfl)⟩) rfl rfl (Or.inl rfl) rfl (fun _ r9 => gh_bit_ok (Z := Z) (d := e9) (by omega)  r9) hf (fun z_7 M_6 he_5 hf => ?_)
          have hq_8 : M_6 0 17 = (q : Int) := ((gh_bit_ok (Z := Z) (d := e9) (by omega)  he_5).1 (by rw [hq]; exact hq0)).trans hq
          refine ex_if (t := 84) (dg dc61 24 rfl) rfl hf (fun _ hf => ?_) (fun _ hf => ?_)
          · refine ex_pu (ls' := [vR q, vJ v1, vU, vI v3, vI (v4 + 1)]) (st' := []) (dg dc61 44 rfl) rfl rfl ?_
            refine ex_goto (t := 8) (dg dc61 45 rfl) rfl rfl ?_
            exact ih (v4 + 1) M_6 hq_8 hf
          · refine ex_pu (ls' := [vR q, vJ v1, vU, vI v3, vI v4]) (st' := [vR q]) (dg dc61 25 rfl) rfl rfl ?_
            refine ex_getO (dg dc61 26 rfl) rfl (LOC.sr (j := 0) hq_8 h0 (by decide) rfl) rfl ?_
            show EX Z _ 61 _ [vR q, vJ v1, vU, vI v3, vI v4] [vR (q + 3)] _ _
            refine ex_pu (ls' := [vR q, vJ v1, vU, vI v3, vI v4]) (st' := [vI 10, vR (q + 3)]) (dg dc61 27 rfl) rfl rfl ?_
            refine ex_pu (ls' := [vR q, vJ v1, vU, vI v3, vI v4]) (st' := [vI v4, vI 10, vR (q + 3)]) (dg dc61 28 rfl) rfl rfl ?_
            refine ex_pu (ls' := [vR q, vJ v1, vU, vI v3, vI v4]) (st' := [vI (10 + v4), vR (q + 3)]) (dg dc61 29 rfl) rfl rfl ?_
            refine ex_iald (dg dc61 30 rfl) (LOC.sr (j := 3) hq_8 h0 (by decide) rfl) rfl hf (fun _ hf => ?_)
            refine ex_pu (ls' := [vR q, vJ v1, vU, vI v3, vI v4]) (st' := [vR q, vI (M_6 1003 ((10 + v4)).toNat)]) (dg dc61 31 rfl) rfl rfl ?_
            refine ex_getI (dg dc61 32 rfl) rfl (LOC.sr (j := 0) hq_8 h0 (by decide) rfl) rfl ?_
            refine ex_pu (ls' := [vR q, vJ v1, vU, vI v3, vI v4]) (st' := [vI (iAnd (M_6 1003 ((10 + v4)).toNat) (M_6 1000 12))]) (dg dc61 33 rfl) rfl rfl ?_
            refine ex_if (t := 84) (dg dc61 34 rfl) rfl hf (fun _ hf => ?_) (fun _ hf => ?_)
            · refine ex_pu (ls' := [vR q, vJ v1, vU, vI v3, vI (v4 + 1)]) (st' := []) (dg dc61 44 rfl) rfl rfl ?_
              refine ex_goto (t := 8) (dg dc61 45 rfl) rfl rfl ?_
              exact ih (v4 + 1) M_6 hq_8 hf
            · refine ex_pu (ls' := [vR q, vJ v1, vU, vI v3, vI v4]) (st' := [vR q]) (dg dc61 35 rfl) rfl rfl ?_
              refine ex_pu (ls' := [vR q, vJ v1, vU, vI v3, vI v4]) (st' := [vJ v1, vR q]) (dg dc61 36 rfl) rfl rfl ?_
              refine ex_pu (ls' := [vR q, vJ v1, vU, vI v3, vI v4]) (st' := [vJ 1, vJ v1, vR q]) (dg dc61 37 rfl) rfl rfl ?_
              refine ex_pu (ls' := [vR q, vJ v1, vU, vI v3, vI v4]) (st' := [vI 40, vJ 1, vJ v1, vR q]) (dg dc61 38 rfl) rfl rfl ?_
              refine ex_pu (ls' := [vR q, vJ v1, vU, vI v3, vI v4]) (st' := [vI v4, vI 40, vJ 1, vJ v1, vR q]) (dg dc61 39 rfl) rfl rfl ?_
              refine ex_pu (ls' := [vR q, vJ v1, vU, vI v3, vI v4]) (st' := [vI (40 + v4), vJ 1, vJ v1, vR q]) (dg dc61 40 rfl) rfl rfl ?_
              refine ex_pu (ls' := [vR q, vJ v1, vU, vI v3, vI v4]) (st' := [vJ (lShl 1 (40 + v4)), vJ v1, vR q]) (dg dc61 41 rfl) rfl rfl ?_
              refine ex_pu (ls' := [vR q, vJ v1, vU, vI v3, vI v4]) (st' := [vJ (lOr v1 (lShl 1 (40 + v4))), vR q]) (dg dc61 42 rfl) rfl rfl ?_
              refine ex_cV (vs := [vR q, vJ (lOr v1 (lShl 1 (40 + v4)))]) (st' := []) (F := (srch_add q (lOr v1 (lShl 1 (40 + v4))) M_6)) (Or.inr (Or.inl ⟨rfl, (dg dc61 43 rfl)⟩)) rfl rfl (rk1 (LOC.sr (j := 0) hq_8 h0 (by decide) rfl) rfl) rfl (fun _ r9 => srch_add_ok (Z := Z) (d := e9) (by omega) hq_8 h0  r9) hf (fun M_10 he_9 hf => ?_)
              have hq_12 : M_10 0 17 = (q : Int) := ((srch_add_ok (Z := Z) (d := e9) (by omega) hq_8 h0  he_9).1 (by rw [hq_8]; exact hq0)).trans hq_8
              refine ex_pu (ls' := [vR q, vJ v1, vU, vI v3, vI (v4 + 1)]) (st' := []) (dg dc61 44 rfl) rfl rfl ?_
              refine ex_goto (t := 8) (dg dc61 45 rfl) rfl rfl ?_
              exact ih (v4 + 1) M_10 hq_12 hf
def srch_addFrees (q : Nat) (v1 : Int) (M : MM) : OR :=
  (bI (srch_freedOf v1 M) fun z_3 M_2 => (srch_addFrees_L8 q v1 z_3 (fun M_13 => some (rV, M_13)) FU 0 M_2))
set_option maxRecDepth 4000 in
theorem srch_addFrees_ok {Z : Nat × (Nat → Int)} {d : Nat} (hd : 1 ≤ d) {M : MM} {q : Nat} (hq : M 0 17 = (q : Int)) (h0 : q ≠ 0) {v1 : Int} {res : AR × MM} (hf : srch_addFrees q v1 M = some res) : EX Z d 61 0 (ent 61 [vR q, vJ v1]) [] M res := by
  obtain ⟨e9, rfl⟩ : ∃ e9, d = e9 + 1 := ⟨d - 1, by omega⟩
  have hq0 : (q : Int) ≠ 0 := by omega
  unfold srch_addFrees at hf
  show EX Z _ 61 0 [vR q, vJ v1, vU, vU, vU] [] M res
  refine ex_pu (ls' := [vR q, vJ v1, vU, vU, vU]) (st' := [vJ v1]) (dg dc61 0 rfl) rfl rfl ?_
  refine ex_cI (vs := [vJ v1]) (st' := []) (F := (srch_freedOf v1 M)) (Or.inl ⟨rfl, (dg dc61 1 rfl)⟩) rfl rfl (Or.inl rfl) rfl (fun _ r9 => srch_freedOf_ok (Z := Z) (d := e9) (by omega)  r9) hf (fun z_3 M_2 he_1 hf => ?_)
  have hq_4 : M_2 0 17 = (q : Int) := ((srch_freedOf_ok (Z := Z) (d := e9) (by omega)  he_1).1 (by rw [hq]; exact hq0)).trans hq
  refine ex_pu (ls' := [vR q, vJ v1, vU, vI z_3, vU]) (st' := []) (dg dc61 2 rfl) rfl rfl ?_
  refine ex_pu (ls' := [vR q, vJ v1, vU, vI z_3, vU]) (st' := [vI 0]) (dg dc61 3 rfl) rfl rfl ?_
  refine ex_pu (ls' := [vR q, vJ v1, vU, vI z_3, vI 0]) (st' := []) (dg dc61 4 rfl) rfl rfl ?_
  refine srch_addFrees_L8_ok hd h0 ?_ FU 0 M_2 hq_4 hf
  · intro M_13 j0_15 j1_16 j2_17 j3_18 j4_19 hq_14 hf
    exact ex_vre (dg dc61 46 rfl) rfl hf
-- GlassHill$Search.fewestHoursToFree
def il62 : List (Nat × Instr × Nat) := [(0, .iconst (-1), 1), (1, .istore_n 2, 1), (2, .iconst 0, 1), (3, .istore_n 3, 1), (4, .iload_n 3, 1), (5, .aload_n 0, 1), (6, .getfield 11, 3), (9, .if_icmp .ge 46, 3), (12, .iload_n 3, 1), (13, .sipush 6000, 3), (16, .if_icmp .ge 39, 3), (19, .iload_n 1, 1), (20, .aload_n 0, 1), (21, .getfield 22, 3), (24, .iload_n 3, 1), (25, .laload, 1), (26, .invokestatic 178, 3), (29, .iconst (-1), 1), (30, .ixor, 1), (31, .iand, 1), (32, .ifCond .ne 17, 3), (35, .iload_n 2, 1), (36, .aload_n 0, 1), (37, .getfield 22, 3), (40, .iload_n 3, 1), (41, .laload, 1), (42, .invokestatic 59, 3), (45, .invokestatic 187, 3), (48, .istore_n 2, 1), (49, .iinc 3 1, 3), (52, .goto (-48), 3), (55, .iload_n 2, 1), (56, .ireturn, 1)]
theorem dc62 : dcs (mC 62) il62 := dc_of (by decide +kernel)
def srch_fewestHoursToFree_L4 (q : Nat) (v1 : Int) (K1 : Int → MM → OR) : Nat → Int → Int → MM → OR
  | 0, _, _, _ => none
  | n + 1, v2, v3, M => (bif cmpB .ge v3 (M 1000 3) then (K1 v2 M) else (bif cmpB .ge v3 6000 then (K1 v2 M) else (bif inB v3 6000 then (bI (srch_freedOf (M 1001 (v3).toNat) M) fun z_3 M_2 => (bif cmpB .ne (iAnd v1 (iXor z_3 (-1))) 0 then (srch_fewestHoursToFree_L4 q v1 K1 n v2 (v3 + 1) M_2) else (bif inB v3 6000 then (bI (srch_hoursOf (M_2 1001 (v3).toNat) M_2) fun z_7 M_6 => (bI (srch_lesser v2 z_7 M_6) fun z_11 M_10 => (srch_fewestHoursToFree_L4 q v1 K1 n z_11 (v3 + 1) M_10))) else none))) else none)))
set_option maxRecDepth 4000 in
theorem srch_fewestHoursToFree_L4_ok {Z : Nat × (Nat → Int)} {d : Nat} (hd : 1 ≤ d) {q : Nat} (h0 : q ≠ 0) {v1 : Int} {K1 : Int → MM → OR} {res : AR × MM} (k1 : ∀ (x2 : Int) (M : MM) (j0 j1 j3 : AV), M 0 17 = (q : Int) → K1 x2 M = some res → EX Z d 62 55 [j0, j1, vI x2, j3] [] M res) : ∀ (n : Nat) (v2 v3 : Int) (M : MM), M 0 17 = (q : Int) → srch_fewestHoursToFree_L4 q v1 K1 n v2 v3 M = some res → EX Z d 62 4 [vR q, vI v1, vI v2, vI v3] [] M res := by
  obtain ⟨e9, rfl⟩ : ∃ e9, d = e9 + 1 := ⟨d - 1, by omega⟩
  have hq0 : (q : Int) ≠ 0 := by omega
  intro n
  induction n with
  | zero =>
    intro v2 v3 M hq hf
    unfold srch_fewestHoursToFree_L4 at hf
    cases hf
  | succ n ih =>
    intro v2 v3 M hq hf
    unfold srch_fewestHoursToFree_L4 at hf
    refine ex_pu (ls' := [vR q, vI v1, vI v2, vI v3]) (st' := [vI v3]) (dg dc62 4 rfl) rfl rfl ?_
    refine ex_pu (ls' := [vR q, vI v1, vI v2, vI v3]) (st' := [vR q, vI v3]) (dg dc62 5 rfl) rfl rfl ?_
    refine ex_getI (dg dc62 6 rfl) rfl (LOC.sr (j := 0) hq h0 (by decide) rfl) rfl ?_
    refine ex_icmp (t := 55) (dg dc62 7 rfl) rfl hf (fun _ hf => ?_) (fun _ hf => ?_)
    · exact k1 v2 M _ _ _ hq hf
    · refine ex_pu (ls' := [vR q, vI v1, vI v2, vI v3]) (st' := [vI v3]) (dg dc62 8 rfl) rfl rfl ?_
      refine ex_pu (ls' := [vR q, vI v1, vI v2, vI v3]) (st' := [vI 6000, vI v3]) (dg dc62 9 rfl) rfl rfl ?_
      refine ex_icmp (t := 55) (dg dc62 10 rfl) rfl hf (fun _ hf => ?_) (fun _ hf => ?_)
      · exact k1 v2 M _ _ _ hq hf
      · refine ex_pu (ls' := [vR q, vI v1, vI v2, vI v3]) (st' := [vI v1]) (dg dc62 11 rfl) rfl rfl ?_
        refine ex_pu (ls' := [vR q, vI v1, vI v2, vI v3]) (st' := [vR q, vI v1]) (dg dc62 12 rfl) rfl rfl ?_
        refine ex_getO (dg dc62 13 rfl) rfl (LOC.sr (j := 0) hq h0 (by decide) rfl) rfl ?_
        show EX Z _ 62 _ [vR q, vI v1, vI v2, vI v3] [vR (q + 1), vI v1] _ _
        refine ex_pu (ls' := [vR q, vI v1, vI v2, vI v3]) (st' := [vI v3, vR (q + 1), vI v1]) (dg dc62 14 rfl) rfl rfl ?_
        refine ex_lald (dg dc62 15 rfl) (LOC.sr (j := 1) hq h0 (by decide) rfl) rfl hf (fun _ hf => ?_)
        refine ex_cI (vs := [vJ (M 1001 (v3).toNat)]) (st' := [vI v1]) (F := (srch_freedOf (M 1001 (v3).toNat) M)) (Or.inl ⟨rfl, (dg dc62 16 rfl)⟩) rfl rfl (Or.inl rfl) rfl (fun _ r9 => srch_freedOf_ok (Z := Z) (d := e9) (by omega)  r9) hf (fun z_3 M_2 he_1 hf => ?_)
        have hq_4 : M_2 0 17 = (q : Int) := ((srch_freedOf_ok (Z := Z) (d := e9) (by omega)  he_1).1 (by rw [hq]; exact hq0)).trans hq
        refine ex_pu (ls' := [vR q, vI v1, vI v2, vI v3]) (st' := [vI (-1), vI z_3, vI v1]) (dg dc62 17 rfl) rfl rfl ?_
        refine ex_pu (ls' := [vR q, vI v1, vI v2, vI v3]) (st' := [vI (iXor z_3 (-1)), vI v1]) (dg dc62 18 rfl) rfl rfl ?_
        refine ex_pu (ls' := [vR q, vI v1, vI v2, vI v3]) (st' := [vI (iAnd v1 (iXor z_3 (-1)))]) (dg dc62 19 rfl) rfl rfl ?_
        refine ex_if (t := 49) (dg dc62 20 rfl) rfl hf (fun _ hf => ?_) (fun _ hf => ?_)
        · refine ex_pu (ls' := [vR q, vI v1, vI v2, vI (v3 + 1)]) (st' := []) (dg dc62 29 rfl) rfl rfl ?_
          refine ex_goto (t := 4) (dg dc62 30 rfl) rfl rfl ?_
          exact ih v2 (v3 + 1) M_2 hq_4 hf
        · refine ex_pu (ls' := [vR q, vI v1, vI v2, vI v3]) (st' := [vI v2]) (dg dc62 21 rfl) rfl rfl ?_
          refine ex_pu (ls' := [vR q, vI v1, vI v2, vI v3]) (st' := [vR q, vI v2]) (dg dc62 22 rfl) rfl rfl ?_
          refine ex_getO (dg dc62 23 rfl) rfl (LOC.sr (j := 0) hq_4 h0 (by decide) rfl) rfl ?_
          show EX Z _ 62 _ [vR q, vI v1, vI v2, vI v3] [vR (q + 1), vI v2] _ _
          refine ex_pu (ls' := [vR q, vI v1, vI v2, vI v3]) (st' := [vI v3, vR (q + 1), vI v2]) (dg dc62 24 rfl) rfl rfl ?_
          refine ex_lald (dg dc62 25 rfl) (LOC.sr (j := 1) hq_4 h0 (by decide) rfl) rfl hf (fun _ hf => ?_)
          refine ex_cI (vs := [vJ (M_2 1001 (v3).toNat)]) (st' := [vI v2]) (F := (srch_hoursOf (M_2 1001 (v3).toNat) M_2)) (Or.inl ⟨rfl, (dg dc62 26 rfl)⟩) rfl rfl (Or.inl rfl) rfl (fun _ r9 => srch_hoursOf_ok (Z := Z) (d := e9) (by omega)  r9) hf (fun z_7 M_6 he_5 hf => ?_)
          have hq_8 : M_6 0 17 = (q : Int) := ((srch_hoursOf_ok (Z := Z) (d := e9) (by omega)  he_5).1 (by rw [hq_4]; exact hq0)).trans hq_4
          refine ex_cI (vs := [vI v2, vI z_7]) (st' := []) (F := (srch_lesser v2 z_7 M_6)) (Or.inl ⟨rfl, (dg dc62 27 rfl)⟩) rfl rfl (Or.inl rfl) rfl (fun _ r9 => srch_lesser_ok (Z := Z) (d := e9) (by omega)  r9) hf (fun z_11 M_10 he_9 hf => ?_)
          have hq_12 : M_10 0 17 = (q : Int) := ((srch_lesser_ok (Z := Z) (d := e9) (by omega)  he_9).1 (by rw [hq_8]; exact hq0)).trans hq_8
          refine ex_pu (ls' := [vR q, vI v1, vI z_11, vI v3]) (st' := []) (dg dc62 28 rfl) rfl rfl ?_
          refine ex_pu (ls' := [vR q, vI v1, vI z_11, vI (v3 + 1)]) (st' := []) (dg dc62 29 rfl) rfl rfl ?_
          refine ex_goto (t := 4) (dg dc62 30 rfl) rfl rfl ?_
          exact ih z_11 (v3 + 1) M_10 hq_12 hf
def srch_fewestHoursToFree (q : Nat) (v1 : Int) (M : MM) : OR :=
  (srch_fewestHoursToFree_L4 q v1 (fun v2_13 M_14 => some (rI v2_13, M_14)) FU (-1) 0 M)
set_option maxRecDepth 4000 in
theorem srch_fewestHoursToFree_ok {Z : Nat × (Nat → Int)} {d : Nat} (hd : 1 ≤ d) {M : MM} {q : Nat} (hq : M 0 17 = (q : Int)) (h0 : q ≠ 0) {v1 : Int} {res : AR × MM} (hf : srch_fewestHoursToFree q v1 M = some res) : EX Z d 62 0 (ent 62 [vR q, vI v1]) [] M res := by
  obtain ⟨e9, rfl⟩ : ∃ e9, d = e9 + 1 := ⟨d - 1, by omega⟩
  have hq0 : (q : Int) ≠ 0 := by omega
  unfold srch_fewestHoursToFree at hf
  show EX Z _ 62 0 [vR q, vI v1, vU, vU] [] M res
  refine ex_pu (ls' := [vR q, vI v1, vU, vU]) (st' := [vI (-1)]) (dg dc62 0 rfl) rfl rfl ?_
  refine ex_pu (ls' := [vR q, vI v1, vI (-1), vU]) (st' := []) (dg dc62 1 rfl) rfl rfl ?_
  refine ex_pu (ls' := [vR q, vI v1, vI (-1), vU]) (st' := [vI 0]) (dg dc62 2 rfl) rfl rfl ?_
  refine ex_pu (ls' := [vR q, vI v1, vI (-1), vI 0]) (st' := []) (dg dc62 3 rfl) rfl rfl ?_
  refine srch_fewestHoursToFree_L4_ok hd h0 ?_ FU (-1) 0 M hq hf
  · intro v2_13 M_14 j0_16 j1_17 j3_18 hq_15 hf
    refine ex_pu (ls' := [j0_16, j1_17, vI v2_13, j3_18]) (st' := [vI v2_13]) (dg dc62 31 rfl) rfl rfl ?_
    exact ex_ire (dg dc62 32 rfl) rfl hf
-- GlassHill$Search.fewestHoursTo
def il63 : List (Nat × Instr × Nat) := [(0, .iconst (-1), 1), (1, .istore_n 2, 1), (2, .iconst 0, 1), (3, .istore_n 3, 1), (4, .iload_n 3, 1), (5, .aload_n 0, 1), (6, .getfield 11, 3), (9, .if_icmp .ge 43, 3), (12, .iload_n 3, 1), (13, .sipush 6000, 3), (16, .if_icmp .ge 36, 3), (19, .aload_n 0, 1), (20, .getfield 22, 3), (23, .iload_n 3, 1), (24, .laload, 1), (25, .invokestatic 66, 3), (28, .iload_n 1, 1), (29, .if_icmp .ne 17, 3), (32, .iload_n 2, 1), (33, .aload_n 0, 1), (34, .getfield 22, 3), (37, .iload_n 3, 1), (38, .laload, 1), (39, .invokestatic 59, 3), (42, .invokestatic 187, 3), (45, .istore_n 2, 1), (46, .iinc 3 1, 3), (49, .goto (-45), 3), (52, .iload_n 2, 1), (53, .ireturn, 1)]
theorem dc63 : dcs (mC 63) il63 := dc_of (by decide +kernel)
def srch_fewestHoursTo_L4 (q : Nat) (v1 : Int) (K1 : Int → MM → OR) : Nat → Int → Int → MM → OR
  | 0, _, _, _ => none
  | n + 1, v2, v3, M => (bif cmpB .ge v3 (M 1000 3) then (K1 v2 M) else (bif cmpB .ge v3 6000 then (K1 v2 M) else (bif inB v3 6000 then (bI (srch_placeOf (M 1001 (v3).toNat) M) fun z_3 M_2 => (bif cmpB .ne z_3 v1 then (srch_fewestHoursTo_L4 q v1 K1 n v2 (v3 + 1) M_2) else (bif inB v3 6000 then (bI (srch_hoursOf (M_2 1001 (v3).toNat) M_2) fun z_7 M_6 => (bI (srch_lesser v2 z_7 M_6) fun z_11 M_10 => (srch_fewestHoursTo_L4 q v1 K1 n z_11 (v3 + 1) M_10))) else none))) else none)))
set_option maxRecDepth 4000 in
theorem srch_fewestHoursTo_L4_ok {Z : Nat × (Nat → Int)} {d : Nat} (hd : 1 ≤ d) {q : Nat} (h0 : q ≠ 0) {v1 : Int} {K1 : Int → MM → OR} {res : AR × MM} (k1 : ∀ (x2 : Int) (M : MM) (j0 j1 j3 : AV), M 0 17 = (q : Int) → K1 x2 M = some res → EX Z d 63 52 [j0, j1, vI x2, j3] [] M res) : ∀ (n : Nat) (v2 v3 : Int) (M : MM), M 0 17 = (q : Int) → srch_fewestHoursTo_L4 q v1 K1 n v2 v3 M = some res → EX Z d 63 4 [vR q, vI v1, vI v2, vI v3] [] M res := by
  obtain ⟨e9, rfl⟩ : ∃ e9, d = e9 + 1 := ⟨d - 1, by omega⟩
  have hq0 : (q : Int) ≠ 0 := by omega
  intro n
  induction n with
  | zero =>
    intro v2 v3 M hq hf
    unfold srch_fewestHoursTo_L4 at hf
    cases hf
  | succ n ih =>
    intro v2 v3 M hq hf
    unfold srch_fewestHoursTo_L4 at hf
    refine ex_pu (ls' := [vR q, vI v1, vI v2, vI v3]) (st' := [vI v3]) (dg dc63 4 rfl) rfl rfl ?_
    refine ex_pu (ls' := [vR q, vI v1, vI v2, vI v3]) (st' := [vR q, vI v3]) (dg dc63 5 rfl) rfl rfl ?_
    refine ex_getI (dg dc63 6 rfl) rfl (LOC.sr (j := 0) hq h0 (by decide) rfl) rfl ?_
    refine ex_icmp (t := 52) (dg dc63 7 rfl) rfl hf (fun _ hf => ?_) (fun _ hf => ?_)
    · exact k1 v2 M _ _ _ hq hf
    · refine ex_pu (ls' := [vR q, vI v1, vI v2, vI v3]) (st' := [vI v3]) (dg dc63 8 rfl) rfl rfl ?_
      refine ex_pu (ls' := [vR q, vI v1, vI v2, vI v3]) (st' := [vI 6000, vI v3]) (dg dc63 9 rfl) rfl rfl ?_
      refine ex_icmp (t := 52) (dg dc63 10 rfl) rfl hf (fun _ hf => ?_) (fun _ hf => ?_)
      · exact k1 v2 M _ _ _ hq hf
      · refine ex_pu (ls' := [vR q, vI v1, vI v2, vI v3]) (st' := [vR q]) (dg dc63 11 rfl) rfl rfl ?_
        refine ex_getO (dg dc63 12 rfl) rfl (LOC.sr (j := 0) hq h0 (by decide) rfl) rfl ?_
        show EX Z _ 63 _ [vR q, vI v1, vI v2, vI v3] [vR (q + 1)] _ _
        refine ex_pu (ls' := [vR q, vI v1, vI v2, vI v3]) (st' := [vI v3, vR (q + 1)]) (dg dc63 13 rfl) rfl rfl ?_
        refine ex_lald (dg dc63 14 rfl) (LOC.sr (j := 1) hq h0 (by decide) rfl) rfl hf (fun _ hf => ?_)
        refine ex_cI (vs := [vJ (M 1001 (v3).toNat)]) (st' := []) (F := (srch_placeOf (M 1001 (v3).toNat) M)) (Or.inl ⟨rfl, (dg dc63 15 rfl)⟩) rfl rfl (Or.inl rfl) rfl (fun _ r9 => srch_placeOf_ok (Z := Z) (d := e9) (by omega)  r9) hf (fun z_3 M_2 he_1 hf => ?_)
        have hq_4 : M_2 0 17 = (q : Int) := ((srch_placeOf_ok (Z := Z) (d := e9) (by omega)  he_1).1 (by rw [hq]; exact hq0)).trans hq
        refine ex_pu (ls' := [vR q, vI v1, vI v2, vI v3]) (st' := [vI v1, vI z_3]) (dg dc63 16 rfl) rfl rfl ?_
        refine ex_icmp (t := 46) (dg dc63 17 rfl) rfl hf (fun _ hf => ?_) (fun _ hf => ?_)
        · refine ex_pu (ls' := [vR q, vI v1, vI v2, vI (v3 + 1)]) (st' := []) (dg dc63 26 rfl) rfl rfl ?_
          refine ex_goto (t := 4) (dg dc63 27 rfl) rfl rfl ?_
          exact ih v2 (v3 + 1) M_2 hq_4 hf
        · refine ex_pu (ls' := [vR q, vI v1, vI v2, vI v3]) (st' := [vI v2]) (dg dc63 18 rfl) rfl rfl ?_
          refine ex_pu (ls' := [vR q, vI v1, vI v2, vI v3]) (st' := [vR q, vI v2]) (dg dc63 19 rfl) rfl rfl ?_
          refine ex_getO (dg dc63 20 rfl) rfl (LOC.sr (j := 0) hq_4 h0 (by decide) rfl) rfl ?_
          show EX Z _ 63 _ [vR q, vI v1, vI v2, vI v3] [vR (q + 1), vI v2] _ _
          refine ex_pu (ls' := [vR q, vI v1, vI v2, vI v3]) (st' := [vI v3, vR (q + 1), vI v2]) (dg dc63 21 rfl) rfl rfl ?_
          refine ex_lald (dg dc63 22 rfl) (LOC.sr (j := 1) hq_4 h0 (by decide) rfl) rfl hf (fun _ hf => ?_)
          refine ex_cI (vs := [vJ (M_2 1001 (v3).toNat)]) (st' := [vI v2]) (F := (srch_hoursOf (M_2 1001 (v3).toNat) M_2)) (Or.inl ⟨rfl, (dg dc63 23 rfl)⟩) rfl rfl (Or.inl rfl) rfl (fun _ r9 => srch_hoursOf_ok (Z := Z) (d := e9) (by omega)  r9) hf (fun z_7 M_6 he_5 hf => ?_)
          have hq_8 : M_6 0 17 = (q : Int) := ((srch_hoursOf_ok (Z := Z) (d := e9) (by omega)  he_5).1 (by rw [hq_4]; exact hq0)).trans hq_4
          refine ex_cI (vs := [vI v2, vI z_7]) (st' := []) (F := (srch_lesser v2 z_7 M_6)) (Or.inl ⟨rfl, (dg dc63 24 rfl)⟩) rfl rfl (Or.inl rfl) rfl (fun _ r9 => srch_lesser_ok (Z := Z) (d := e9) (by omega)  r9) hf (fun z_11 M_10 he_9 hf => ?_)
          have hq_12 : M_10 0 17 = (q : Int) := ((srch_lesser_ok (Z := Z) (d := e9) (by omega)  he_9).1 (by rw [hq_8]; exact hq0)).trans hq_8
          refine ex_pu (ls' := [vR q, vI v1, vI z_11, vI v3]) (st' := []) (dg dc63 25 rfl) rfl rfl ?_
          refine ex_pu (ls' := [vR q, vI v1, vI z_11, vI (v3 + 1)]) (st' := []) (dg dc63 26 rfl) rfl rfl ?_
          refine ex_goto (t := 4) (dg dc63 27 rfl) rfl rfl ?_
          exact ih z_11 (v3 + 1) M_10 hq_12 hf
def srch_fewestHoursTo (q : Nat) (v1 : Int) (M : MM) : OR :=
  (srch_fewestHoursTo_L4 q v1 (fun v2_13 M_14 => some (rI v2_13, M_14)) FU (-1) 0 M)
set_option maxRecDepth 4000 in
theorem srch_fewestHoursTo_ok {Z : Nat × (Nat → Int)} {d : Nat} (hd : 1 ≤ d) {M : MM} {q : Nat} (hq : M 0 17 = (q : Int)) (h0 : q ≠ 0) {v1 : Int} {res : AR × MM} (hf : srch_fewestHoursTo q v1 M = some res) : EX Z d 63 0 (ent 63 [vR q, vI v1]) [] M res := by
  obtain ⟨e9, rfl⟩ : ∃ e9, d = e9 + 1 := ⟨d - 1, by omega⟩
  have hq0 : (q : Int) ≠ 0 := by omega
  unfold srch_fewestHoursTo at hf
  show EX Z _ 63 0 [vR q, vI v1, vU, vU] [] M res
  refine ex_pu (ls' := [vR q, vI v1, vU, vU]) (st' := [vI (-1)]) (dg dc63 0 rfl) rfl rfl ?_
  refine ex_pu (ls' := [vR q, vI v1, vI (-1), vU]) (st' := []) (dg dc63 1 rfl) rfl rfl ?_
  refine ex_pu (ls' := [vR q, vI v1, vI (-1), vU]) (st' := [vI 0]) (dg dc63 2 rfl) rfl rfl ?_
  refine ex_pu (ls' := [vR q, vI v1, vI (-1), vI 0]) (st' := []) (dg dc63 3 rfl) rfl rfl ?_
  refine srch_fewestHoursTo_L4_ok hd h0 ?_ FU (-1) 0 M hq hf
  · intro v2_13 M_14 j0_16 j1_17 j3_18 hq_15 hf
    refine ex_pu (ls' := [j0_16, j1_17, vI v2_13, j3_18]) (st' := [vI v2_13]) (dg dc63 28 rfl) rfl rfl ?_
    exact ex_ire (dg dc63 29 rfl) rfl hf
-- GlassHill$Search.leastLossToFree
def il64 : List (Nat × Instr × Nat) := [(0, .iconst (-1), 1), (1, .istore_n 2, 1), (2, .iconst 0, 1), (3, .istore_n 3, 1), (4, .iload_n 3, 1), (5, .aload_n 0, 1), (6, .getfield 11, 3), (9, .if_icmp .ge 72, 3), (12, .iload_n 3, 1), (13, .sipush 6000, 3), (16, .if_icmp .ge 65, 3), (19, .iload_n 1, 1), (20, .aload_n 0, 1), (21, .getfield 22, 3), (24, .iload_n 3, 1), (25, .laload, 1), (26, .invokestatic 178, 3), (29, .iconst (-1), 1), (30, .ixor, 1), (31, .iand, 1), (32, .ifCond .ne 43, 3), (35, .aload_n 0, 1), (36, .getfield 22, 3), (39, .iload_n 3, 1), (40, .laload, 1), (41, .bipush 10, 2), (43, .lushr, 1), (44, .l2i, 1), (45, .sipush 1023, 3), (48, .iand, 1), (49, .aload_n 0, 1), (50, .getfield 40, 3), (53, .getfield 112, 3), (56, .iconst (-1), 1), (57, .ixor, 1), (58, .iand, 1), (59, .istore 4, 2), (61, .iload_n 2, 1), (62, .aload_n 0, 1), (63, .getfield 36, 3), (66, .iload 4, 2), (68, .invokevirtual 190, 3), (71, .invokestatic 187, 3), (74, .istore_n 2, 1), (75, .iinc 3 1, 3), (78, .goto (-74), 3), (81, .iload_n 2, 1), (82, .ireturn, 1)]
theorem dc64 : dcs (mC 64) il64 := dc_of (by decide +kernel)
def srch_leastLossToFree_L4 (q : Nat) (v1 : Int) (K1 : Int → MM → OR) : Nat → Int → Int → MM → OR
  | 0, _, _, _ => none
  | n + 1, v2, v3, M => (bif cmpB .ge v3 (M 1000 3) then (K1 v2 M) else (bif cmpB .ge v3 6000 then (K1 v2 M) else (bif inB v3 6000 then (bI (srch_freedOf (M 1001 (v3).toNat) M) fun z_3 M_2 => (bif cmpB .ne (iAnd v1 (iXor z_3 (-1))) 0 then (srch_leastLossToFree_L4 q v1 K1 n v2 (v3 + 1) M_2) else (bif inB v3 6000 then (bI (land_worthOf 3 (iAnd (iAnd (lUshr (M_2 1001 (v3).toNat) 10) 1023) (iXor (M_2 23 4) (-1))) M_2) fun z_7 M_6 => (bI (srch_lesser v2 z_7 M_6) fun z_11 M_10 => (srch_leastLossToFree_L4 q v1 K1 n z_11 (v3 + 1) M_10))) else none))) else none)))
set_option maxRecDepth 4000 in
theorem srch_leastLossToFree_L4_ok {Z : Nat × (Nat → Int)} {d : Nat} (hd : 2 ≤ d) {q : Nat} (h0 : q ≠ 0) {v1 : Int} {K1 : Int → MM → OR} {res : AR × MM} (k1 : ∀ (x2 : Int) (M : MM) (j0 j1 j3 j4 : AV), M 0 17 = (q : Int) → K1 x2 M = some res → EX Z d 64 81 [j0, j1, vI x2, j3, j4] [] M res) : ∀ (n : Nat) (v2 v3 : Int) (M : MM) (j4 : AV), M 0 17 = (q : Int) → srch_leastLossToFree_L4 q v1 K1 n v2 v3 M = some res → EX Z d 64 4 [vR q, vI v1, vI v2, vI v3, j4] [] M res := by
  obtain ⟨e9, rfl⟩ : ∃ e9, d = e9 + 1 := ⟨d - 1, by omega⟩
  have hq0 : (q : Int) ≠ 0 := by omega
  intro n
  induction n with
  | zero =>
    intro v2 v3 M j4 hq hf
    unfold srch_leastLossToFree_L4 at hf
    cases hf
  | succ n ih =>
    intro v2 v3 M j4 hq hf
    unfold srch_leastLossToFree_L4 at hf
    refine ex_pu (ls' := [vR q, vI v1, vI v2, vI v3, j4]) (st' := [vI v3]) (dg dc64 4 rfl) rfl rfl ?_
    refine ex_pu (ls' := [vR q, vI v1, vI v2, vI v3, j4]) (st' := [vR q, vI v3]) (dg dc64 5 rfl) rfl rfl ?_
    refine ex_getI (dg dc64 6 rfl) rfl (LOC.sr (j := 0) hq h0 (by decide) rfl) rfl ?_
    refine ex_icmp (t := 81) (dg dc64 7 rfl) rfl hf (fun _ hf => ?_) (fun _ hf => ?_)
    · exact k1 v2 M _ _ _ _ hq hf
    · refine ex_pu (ls' := [vR q, vI v1, vI v2, vI v3, j4]) (st' := [vI v3]) (dg dc64 8 rfl) rfl rfl ?_
      refine ex_pu (ls' := [vR q, vI v1, vI v2, vI v3, j4]) (st' := [vI 6000, vI v3]) (dg dc64 9 rfl) rfl rfl ?_
      refine ex_icmp (t := 81) (dg dc64 10 rfl) rfl hf (fun _ hf => ?_) (fun _ hf => ?_)
      · exact k1 v2 M _ _ _ _ hq hf
      · refine ex_pu (ls' := [vR q, vI v1, vI v2, vI v3, j4]) (st' := [vI v1]) (dg dc64 11 rfl) rfl rfl ?_
        refine ex_pu (ls' := [vR q, vI v1, vI v2, vI v3, j4]) (st' := [vR q, vI v1]) (dg dc64 12 rfl) rfl rfl ?_
        refine ex_getO (dg dc64 13 rfl) rfl (LOC.sr (j := 0) hq h0 (by decide) rfl) rfl ?_
        show EX Z _ 64 _ [vR q, vI v1, vI v2, vI v3, j4] [vR (q + 1), vI v1] _ _
        refine ex_pu (ls' := [vR q, vI v1, vI v2, vI v3, j4]) (st' := [vI v3, vR (q + 1), vI v1]) (dg dc64 14 rfl) rfl rfl ?_
        refine ex_lald (dg dc64 15 rfl) (LOC.sr (j := 1) hq h0 (by decide) rfl) rfl hf (fun _ hf => ?_)
        refine ex_cI (vs := [vJ (M 1001 (v3).toNat)]) (st' := [vI v1]) (F := (srch_freedOf (M 1001 (v3).toNat) M)) (Or.inl ⟨rfl, (dg dc64 16 rfl)⟩) rfl rfl (Or.inl rfl) rfl (fun _ r9 => srch_freedOf_ok (Z := Z) (d := e9) (by omega)  r9) hf (fun z_3 M_2 he_1 hf => ?_)
        have hq_4 : M_2 0 17 = (q : Int) := ((srch_freedOf_ok (Z := Z) (d := e9) (by omega)  he_1).1 (by rw [hq]; exact hq0)).trans hq
        refine ex_pu (ls' := [vR q, vI v1, vI v2, vI v3, j4]) (st' := [vI (-1), vI z_3, vI v1]) (dg dc64 17 rfl) rfl rfl ?_
        refine ex_pu (ls' := [vR q, vI v1, vI v2, vI v3, j4]) (st' := [vI (iXor z_3 (-1)), vI v1]) (dg dc64 18 rfl) rfl rfl ?_
        refine ex_pu (ls' := [vR q, vI v1, vI v2, vI v3, j4]) (st' := [vI (iAnd v1 (iXor z_3 (-1)))]) (dg dc64 19 rfl) rfl rfl ?_
        refine ex_if (t := 75) (dg dc64 20 rfl) rfl hf (fun _ hf => ?_) (fun _ hf => ?_)
        · refine ex_pu (ls' := [vR q, vI v1, vI v2, vI (v3 + 1), j4]) (st' := []) (dg dc64 44 rfl) rfl rfl ?_
          refine ex_goto (t := 4) (dg dc64 45 rfl) rfl rfl ?_
          exact ih v2 (v3 + 1) M_2 _ hq_4 hf
        · refine ex_pu (ls' := [vR q, vI v1, vI v2, vI v3, j4]) (st' := [vR q]) (dg dc64 21 rfl) rfl rfl ?_
          refine ex_getO (dg dc64 22 rfl) rfl (LOC.sr (j := 0) hq_4 h0 (by decide) rfl) rfl ?_
          show EX Z _ 64 _ [vR q, vI v1, vI v2, vI v3, j4] [vR (q + 1)] _ _
          refine ex_pu (ls' := [vR q, vI v1, vI v2, vI v3, j4]) (st' := [vI v3, vR (q + 1)]) (dg dc64 23 rfl) rfl rfl ?_
          refine ex_lald (dg dc64 24 rfl) (LOC.sr (j := 1) hq_4 h0 (by decide) rfl) rfl hf (fun _ hf => ?_)
          refine ex_pu (ls' := [vR q, vI v1, vI v2, vI v3, j4]) (st' := [vI 10, vJ (M_2 1001 (v3).toNat)]) (dg dc64 25 rfl) rfl rfl ?_
          refine ex_pu (ls' := [vR q, vI v1, vI v2, vI v3, j4]) (st' := [vJ (lUshr (M_2 1001 (v3).toNat) 10)]) (dg dc64 26 rfl) rfl rfl ?_
          refine ex_pu (ls' := [vR q, vI v1, vI v2, vI v3, j4]) (st' := [vI (lUshr (M_2 1001 (v3).toNat) 10)]) (dg dc64 27 rfl) rfl rfl ?_
          refine ex_pu (ls' := [vR q, vI v1, vI v2, vI v3, j4]) (st' := [vI 1023, vI (lUshr (M_2 1001 (v3).toNat) 10)]) (dg dc64 28 rfl) rfl rfl ?_
          refine ex_pu (ls' := [vR q, vI v1, vI v2, vI v3, j4]) (st' := [vI (iAnd (lUshr (M_2 1001 (v3).toNat) 10) 1023)]) (dg dc64 29 rfl) rfl rfl ?_
          refine ex_pu (ls' := [vR q, vI v1, vI v2, vI v3, j4]) (st' := [vR q, vI (iAnd (lUshr (M_2 1001 (v3).toNat) 10) 1023)]) (dg dc64 30 rfl) rfl rfl ?_
          refine ex_getF (dg dc64 31 rfl) rfl (LOC.sr (j := 0) hq_4 h0 (by decide) rfl) rfl ?_
          refine ex_getI (dg dc64 32 rfl) rfl (LOC.st (Nat.le_of_ble_eq_true rfl) rfl) rfl ?_
          refine ex_pu (ls' := [vR q, vI v1, vI v2, vI v3, j4]) (st' := [vI (-1), vI (M_2 23 4), vI (iAnd (lUshr (M_2 1001 (v3).toNat) 10) 1023)]) (dg dc64 33 rfl) rfl rfl ?_
          refine ex_pu (ls' := [vR q, vI v1, vI v2, vI v3, j4]) (st' := [vI (iXor (M_2 23 4) (-1)), vI (iAnd (lUshr (M_2 1001 (v3).toNat) 10) 1023)]) (dg dc64 34 rfl) rfl rfl ?_
          refine ex_pu (ls' := [vR q, vI v1, vI v2, vI v3, j4]) (st' := [vI (iAnd (iAnd (lUshr (M_2 1001 (v3).toNat) 10) 1023) (iXor (M_2 23 4) (-1)))]) (dg dc64 35 rfl) rfl rfl ?_
          refine ex_pu (ls' := [vR q, vI v1, vI v2, vI v3, vI (iAnd (iAnd (lUshr (M_2 1001 (v3).toNat) 10) 1023) (iXor (M_2 23 4) (-1)))]) (st' := []) (dg dc64 36 rfl) rfl rfl ?_
          refine ex_pu (ls' := [vR q, vI v1, vI v2, vI v3, vI (iAnd (iAnd (lUshr (M_2 1001 (v3).toNat) 10) 1023) (iXor (M_2 23 4) (-1)))]) (st' := [vI v2]) (dg dc64 37 rfl) rfl rfl ?_
          refine ex_pu (ls' := [vR q, vI v1, vI v2, vI v3, vI (iAnd (iAnd (lUshr (M_2 1001 (v3).toNat) 10) 1023) (iXor (M_2 23 4) (-1)))]) (st' := [vR q, vI v2]) (dg dc64 38 rfl) rfl rfl ?_
          refine ex_getF (dg dc64 39 rfl) rfl (LOC.sr (j := 0) hq_4 h0 (by decide) rfl) rfl ?_
          refine ex_pu (ls' := [vR q, vI v1, vI v2, vI v3, vI (iAnd (iAnd (lUshr (M_2 1001 (v3).toNat) 10) 1023) (iXor (M_2 23 4) (-1)))]) (st' := [vI (iAnd (iAnd (lUshr (M_2 1001 (v3).toNat) 10) 1023) (iXor (M_2 23 4) (-1))), vR 3, vI v2]) (dg dc64 40 rfl) rfl rfl ?_
          refine ex_cI (vs := [vR 3, vI (iAnd (iAnd (lUshr (M_2 1001 (v3).toNat) 10) 1023) (iXor (M_2 23 4) (-1)))]) (st' := [vI v2]) (F := (land_worthOf 3 (iAnd (iAnd (lUshr (M_2 1001 (v3).toNat) 10) 1023) (iXor (M_2 23 4) (-1))) M_2)) (Or.inr (Or.inl ⟨rfl, (dg dc64 41 rfl)⟩)) rfl rfl (rk1 (LOC.st (Nat.le_of_ble_eq_true rfl) rfl) rfl) rfl (fun _ r9 => land_worthOf_ok (Z := Z) (d := e9) (by omega) isLand3  r9) hf (fun z_7 M_6 he_5 hf => ?_)
          have hq_8 : M_6 0 17 = (q : Int) := ((land_worthOf_ok (Z := Z) (d := e9) (by omega) isLand3  he_5).1 (by rw [hq_4]; exact hq0)).trans hq_4
          refine ex_cI (vs := [vI v2, vI z_7]) (st' := []) (F := (srch_lesser v2 z_7 M_6)) (Or.inl ⟨rfl, (dg dc64 42 rfl)⟩) rfl rfl (Or.inl rfl) rfl (fun _ r9 => srch_lesser_ok (Z := Z) (d := e9) (by omega)  r9) hf (fun z_11 M_10 he_9 hf => ?_)
          have hq_12 : M_10 0 17 = (q : Int) := ((srch_lesser_ok (Z := Z) (d := e9) (by omega)  he_9).1 (by rw [hq_8]; exact hq0)).trans hq_8
          refine ex_pu (ls' := [vR q, vI v1, vI z_11, vI v3, vI (iAnd (iAnd (lUshr (M_2 1001 (v3).toNat) 10) 1023) (iXor (M_2 23 4) (-1)))]) (st' := []) (dg dc64 43 rfl) rfl rfl ?_
          refine ex_pu (ls' := [vR q, vI v1, vI z_11, vI (v3 + 1), vI (iAnd (iAnd (lUshr (M_2 1001 (v3).toNat) 10) 1023) (iXor (M_2 23 4) (-1)))]) (st' := []) (dg dc64 44 rfl) rfl rfl ?_
          refine ex_goto (t := 4) (dg dc64 45 rfl) rfl rfl ?_
          exact ih z_11 (v3 + 1) M_10 _ hq_12 hf
def srch_leastLossToFree (q : Nat) (v1 : Int) (M : MM) : OR :=
  (srch_leastLossToFree_L4 q v1 (fun v2_13 M_14 => some (rI v2_13, M_14)) FU (-1) 0 M)
set_option maxRecDepth 4000 in
theorem srch_leastLossToFree_ok {Z : Nat × (Nat → Int)} {d : Nat} (hd : 2 ≤ d) {M : MM} {q : Nat} (hq : M 0 17 = (q : Int)) (h0 : q ≠ 0) {v1 : Int} {res : AR × MM} (hf : srch_leastLossToFree q v1 M = some res) : EX Z d 64 0 (ent 64 [vR q, vI v1]) [] M res := by
  obtain ⟨e9, rfl⟩ : ∃ e9, d = e9 + 1 := ⟨d - 1, by omega⟩
  have hq0 : (q : Int) ≠ 0 := by omega
  unfold srch_leastLossToFree at hf
  show EX Z _ 64 0 [vR q, vI v1, vU, vU, vU] [] M res
  refine ex_pu (ls' := [vR q, vI v1, vU, vU, vU]) (st' := [vI (-1)]) (dg dc64 0 rfl) rfl rfl ?_
  refine ex_pu (ls' := [vR q, vI v1, vI (-1), vU, vU]) (st' := []) (dg dc64 1 rfl) rfl rfl ?_
  refine ex_pu (ls' := [vR q, vI v1, vI (-1), vU, vU]) (st' := [vI 0]) (dg dc64 2 rfl) rfl rfl ?_
  refine ex_pu (ls' := [vR q, vI v1, vI (-1), vI 0, vU]) (st' := []) (dg dc64 3 rfl) rfl rfl ?_
  refine srch_leastLossToFree_L4_ok hd h0 ?_ FU (-1) 0 M _ hq hf
  · intro v2_13 M_14 j0_16 j1_17 j3_18 j4_19 hq_15 hf
    refine ex_pu (ls' := [j0_16, j1_17, vI v2_13, j3_18, j4_19]) (st' := [vI v2_13]) (dg dc64 46 rfl) rfl rfl ?_
    exact ex_ire (dg dc64 47 rfl) rfl hf
-- GlassHill$Search.everPassed
def il65 : List (Nat × Instr × Nat) := [(0, .iconst 0, 1), (1, .istore_n 1, 1), (2, .iconst 0, 1), (3, .istore_n 2, 1), (4, .iload_n 2, 1), (5, .aload_n 0, 1), (6, .getfield 11, 3), (9, .if_icmp .ge 28, 3), (12, .iload_n 2, 1), (13, .sipush 6000, 3), (16, .if_icmp .ge 21, 3), (19, .iload_n 1, 1), (20, .aload_n 0, 1), (21, .getfield 22, 3), (24, .iload_n 2, 1), (25, .laload, 1), (26, .invokestatic 75, 3), (29, .ior, 1), (30, .istore_n 1, 1), (31, .iinc 2 1, 3), (34, .goto (-30), 3), (37, .iload_n 1, 1), (38, .ireturn, 1)]
theorem dc65 : dcs (mC 65) il65 := dc_of (by decide +kernel)
def srch_everPassed_L4 (q : Nat) (K1 : Int → MM → OR) : Nat → Int → Int → MM → OR
  | 0, _, _, _ => none
  | n + 1, v1, v2, M => (bif cmpB .ge v2 (M 1000 3) then (K1 v1 M) else (bif cmpB .ge v2 6000 then (K1 v1 M) else (bif inB v2 6000 then (bI (srch_passedOf (M 1001 (v2).toNat) M) fun z_3 M_2 => (srch_everPassed_L4 q K1 n (iOr v1 z_3) (v2 + 1) M_2)) else none)))
set_option maxRecDepth 4000 in
theorem srch_everPassed_L4_ok {Z : Nat × (Nat → Int)} {d : Nat} (hd : 1 ≤ d) {q : Nat} (h0 : q ≠ 0) {K1 : Int → MM → OR} {res : AR × MM} (k1 : ∀ (x1 : Int) (M : MM) (j0 j2 : AV), M 0 17 = (q : Int) → K1 x1 M = some res → EX Z d 65 37 [j0, vI x1, j2] [] M res) : ∀ (n : Nat) (v1 v2 : Int) (M : MM), M 0 17 = (q : Int) → srch_everPassed_L4 q K1 n v1 v2 M = some res → EX Z d 65 4 [vR q, vI v1, vI v2] [] M res := by
  obtain ⟨e9, rfl⟩ : ∃ e9, d = e9 + 1 := ⟨d - 1, by omega⟩
  have hq0 : (q : Int) ≠ 0 := by omega
  intro n
  induction n with
  | zero =>
    intro v1 v2 M hq hf
    unfold srch_everPassed_L4 at hf
    cases hf
  | succ n ih =>
    intro v1 v2 M hq hf
    unfold srch_everPassed_L4 at hf
    refine ex_pu (ls' := [vR q, vI v1, vI v2]) (st' := [vI v2]) (dg dc65 4 rfl) rfl rfl ?_
    refine ex_pu (ls' := [vR q, vI v1, vI v2]) (st' := [vR q, vI v2]) (dg dc65 5 rfl) rfl rfl ?_
    refine ex_getI (dg dc65 6 rfl) rfl (LOC.sr (j := 0) hq h0 (by decide) rfl) rfl ?_
    refine ex_icmp (t := 37) (dg dc65 7 rfl) rfl hf (fun _ hf => ?_) (fun _ hf => ?_)
    · exact k1 v1 M _ _ hq hf
    · refine ex_pu (ls' := [vR q, vI v1, vI v2]) (st' := [vI v2]) (dg dc65 8 rfl) rfl rfl ?_
      refine ex_pu (ls' := [vR q, vI v1, vI v2]) (st' := [vI 6000, vI v2]) (dg dc65 9 rfl) rfl rfl ?_
      refine ex_icmp (t := 37) (dg dc65 10 rfl) rfl hf (fun _ hf => ?_) (fun _ hf => ?_)
      · exact k1 v1 M _ _ hq hf
      · refine ex_pu (ls' := [vR q, vI v1, vI v2]) (st' := [vI v1]) (dg dc65 11 rfl) rfl rfl ?_
        refine ex_pu (ls' := [vR q, vI v1, vI v2]) (st' := [vR q, vI v1]) (dg dc65 12 rfl) rfl rfl ?_
        refine ex_getO (dg dc65 13 rfl) rfl (LOC.sr (j := 0) hq h0 (by decide) rfl) rfl ?_
        show EX Z _ 65 _ [vR q, vI v1, vI v2] [vR (q + 1), vI v1] _ _
        refine ex_pu (ls' := [vR q, vI v1, vI v2]) (st' := [vI v2, vR (q + 1), vI v1]) (dg dc65 14 rfl) rfl rfl ?_
        refine ex_lald (dg dc65 15 rfl) (LOC.sr (j := 1) hq h0 (by decide) rfl) rfl hf (fun _ hf => ?_)
        refine ex_cI (vs := [vJ (M 1001 (v2).toNat)]) (st' := [vI v1]) (F := (srch_passedOf (M 1001 (v2).toNat) M)) (Or.inl ⟨rfl, (dg dc65 16 rfl)⟩) rfl rfl (Or.inl rfl) rfl (fun _ r9 => srch_passedOf_ok (Z := Z) (d := e9) (by omega)  r9) hf (fun z_3 M_2 he_1 hf => ?_)
        have hq_4 : M_2 0 17 = (q : Int) := ((srch_passedOf_ok (Z := Z) (d := e9) (by omega)  he_1).1 (by rw [hq]; exact hq0)).trans hq
        refine ex_pu (ls' := [vR q, vI v1, vI v2]) (st' := [vI (iOr v1 z_3)]) (dg dc65 17 rfl) rfl rfl ?_
        refine ex_pu (ls' := [vR q, vI (iOr v1 z_3), vI v2]) (st' := []) (dg dc65 18 rfl) rfl rfl ?_
        refine ex_pu (ls' := [vR q, vI (iOr v1 z_3), vI (v2 + 1)]) (st' := []) (dg dc65 19 rfl) rfl rfl ?_
        refine ex_goto (t := 4) (dg dc65 20 rfl) rfl rfl ?_
        exact ih (iOr v1 z_3) (v2 + 1) M_2 hq_4 hf
def srch_everPassed (q : Nat) (M : MM) : OR :=
  (srch_everPassed_L4 q (fun v1_5 M_6 => some (rI v1_5, M_6)) FU 0 0 M)
set_option maxRecDepth 4000 in
theorem srch_everPassed_ok {Z : Nat × (Nat → Int)} {d : Nat} (hd : 1 ≤ d) {M : MM} {q : Nat} (hq : M 0 17 = (q : Int)) (h0 : q ≠ 0) {res : AR × MM} (hf : srch_everPassed q M = some res) : EX Z d 65 0 (ent 65 [vR q]) [] M res := by
  obtain ⟨e9, rfl⟩ : ∃ e9, d = e9 + 1 := ⟨d - 1, by omega⟩
  have hq0 : (q : Int) ≠ 0 := by omega
  unfold srch_everPassed at hf
  show EX Z _ 65 0 [vR q, vU, vU] [] M res
  refine ex_pu (ls' := [vR q, vU, vU]) (st' := [vI 0]) (dg dc65 0 rfl) rfl rfl ?_
  refine ex_pu (ls' := [vR q, vI 0, vU]) (st' := []) (dg dc65 1 rfl) rfl rfl ?_
  refine ex_pu (ls' := [vR q, vI 0, vU]) (st' := [vI 0]) (dg dc65 2 rfl) rfl rfl ?_
  refine ex_pu (ls' := [vR q, vI 0, vI 0]) (st' := []) (dg dc65 3 rfl) rfl rfl ?_
  refine srch_everPassed_L4_ok hd h0 ?_ FU 0 0 M hq hf
  · intro v1_5 M_6 j0_8 j2_9 hq_7 hf
    refine ex_pu (ls' := [j0_8, vI v1_5, j2_9]) (st' := [vI v1_5]) (dg dc65 21 rfl) rfl rfl ?_
    exact ex_ire (dg dc65 22 rfl) rfl hf
-- GlassHill$Steps.judge
def il72 : List (Nat × Instr × Nat) := [(0, .aload_n 0, 1), (1, .iconst 0, 1), (2, .putfield 9, 3), (5, .aload_n 0, 1), (6, .aload_n 0, 1), (7, .getfield 19, 3), (10, .getfield 27, 3), (13, .iload_n 1, 1), (14, .iaload, 1), (15, .putfield 15, 3), (18, .aload_n 0, 1), (19, .getfield 23, 3), (22, .getfield 32, 3), (25, .ifCond .gt 4, 3), (28, .return_, 1), (29, .aload_n 0, 1), (30, .getfield 23, 3), (33, .iload_n 1, 1), (34, .iload_n 2, 1), (35, .aload_n 0, 1), (36, .getfield 19, 3), (39, .iload_n 1, 1), (40, .iload_n 2, 1), (41, .invokevirtual 37, 3), (44, .iload 4, 2), (46, .invokevirtual 41, 3), (49, .aload_n 0, 1), (50, .getfield 23, 3), (53, .iload_n 3, 1), (54, .invokestatic 45, 3), (57, .aload_n 0, 1), (58, .getfield 19, 3), (61, .iload_n 3, 1), (62, .invokevirtual 51, 3), (65, .invokevirtual 54, 3), (68, .iconst 0, 1), (69, .istore 5, 2), (71, .iload 5, 2), (73, .aload_n 0, 1), (74, .getfield 23, 3), (77, .getfield 32, 3), (80, .if_icmp .ge 69, 3), (83, .iload 5, 2), (85, .bipush 12, 2), (87, .if_icmp .ge 62, 3), (90, .aload_n 0, 1), (91, .getfield 23, 3), (94, .iload 5, 2), (96, .invokevirtual 58, 3), (99, .ifCond .eq 44, 3), (102, .aload_n 0, 1), (103, .getfield 23, 3), (106, .getfield 62, 3), (109, .iload 5, 2), (111, .iaload, 1), (112, .iconst (-1), 1), (113, .if_icmp .ne 11, 3), (116, .aload_n 0, 1), (117, .iconst 1, 1), (118, .putfield 9, 3), (121, .goto 22, 3), (124, .aload_n 0, 1), (125, .dup, 1), (126, .getfield 15, 3), (129, .aload_n 0, 1), (130, .getfield 23, 3), (133, .getfield 62, 3), (136, .iload 5, 2), (138, .iaload, 1), (139, .iadd, 1), (140, .putfield 15, 3), (143, .iinc 5 1, 3), (146, .goto (-75), 3), (149, .return_, 1)]
theorem dc72 : dcs (mC 72) il72 := dc_of (by decide +kernel)
def stps_judge_L71  (K1 : MM → OR) : Nat → Int → MM → OR
  | 0, _, _ => none
  | n + 1, v5, M => (bif cmpB .ge v5 (M 17 0) then (K1  M) else (bif cmpB .ge v5 12 then (K1  M) else (bI (law_holds 17 v5 M) fun z_22 M_21 => (bif cmpB .eq z_22 0 then (stps_judge_L71  K1 n (v5 + 1) M_21) else (bif inB v5 12 then (bif cmpB .ne (M_21 18 (v5).toNat) (-1) then (bif inB v5 12 then (sM (mU M_21 157 1 ((M_21 157 1) + (M_21 18 (v5).toNat))) fun M_24 => (stps_judge_L71  K1 n (v5 + 1) M_24)) else none) else (sM (mU M_21 157 0 1) fun M_27 => (stps_judge_L71  K1 n (v5 + 1) M_27))) else none)))))
set_option maxRecDepth 4000 in
theorem stps_judge_L71_ok {Z : Nat × (Nat → Int)} {d : Nat} (hd : 2 ≤ d)  {K1 : MM → OR} {res : AR × MM} (k1 : ∀ (M : MM) (j0 j1 j2 j3 j4 j5 : AV), K1  M = some res → EX Z d 72 149 [j0, j1, j2, j3, j4, j5] [] M res) : ∀ (n : Nat) (v5 : Int) (M : MM) (j1 j2 j3 j4 : AV), stps_judge_L71  K1 n v5 M = some res → EX Z d 72 71 [vR 157, j1, j2, j3, j4, vI v5] [] M res := by
  obtain ⟨e9, rfl⟩ : ∃ e9, d = e9 + 1 := ⟨d - 1, by omega⟩
  intro n
  induction n with
  | zero =>
    intro v5 M j1 j2 j3 j4 hf
    unfold stps_judge_L71 at hf
    cases hf
  | succ n ih =>
    intro v5 M j1 j2 j3 j4 hf
    unfold stps_judge_L71 at hf
    refine ex_pu (ls' := [vR 157, j1, j2, j3, j4, vI v5]) (st' := [vI v5]) (dg dc72 37 rfl) rfl rfl ?_
    refine ex_pu (ls' := [vR 157, j1, j2, j3, j4, vI v5]) (st' := [vR 157, vI v5]) (dg dc72 38 rfl) rfl rfl ?_
    refine ex_getF (dg dc72 39 rfl) rfl (LOC.st (Nat.le_of_ble_eq_true rfl) rfl) rfl ?_
    refine ex_getI (dg dc72 40 rfl) rfl (LOC.st (Nat.le_of_ble_eq_true rfl) rfl) rfl ?_
    refine ex_icmp (t := 149) (dg dc72 41 rfl) rfl hf (fun _ hf => ?_) (fun _ hf => ?_)
    · exact k1  M _ _ _ _ _ _ hf
    · refine ex_pu (ls' := [vR 157, j1, j2, j3, j4, vI v5]) (st' := [vI v5]) (dg dc72 42 rfl) rfl rfl ?_
      refine ex_pu (ls' := [vR 157, j1, j2, j3, j4, vI v5]) (st' := [vI 12, vI v5]) (dg dc72 43 rfl) rfl rfl ?_
      refine ex_icmp (t := 149) (dg dc72 44 rfl) rfl hf (fun _ hf => ?_) (fun _ hf => ?_)
      · exact k1  M _ _ _ _ _ _ hf
      · refine ex_pu (ls' := [vR 157, j1, j2, j3, j4, vI v5]) (st' := [vR 157]) (dg dc72 45 rfl) rfl rfl ?_
        refine ex_getF (dg dc72 46 rfl) rfl (LOC.st (Nat.le_of_ble_eq_true rfl) rfl) rfl ?_
        refine ex_pu (ls' := [vR 157, j1, j2, j3, j4, vI v5]) (st' := [vI v5, vR 17]) (dg dc72 47 rfl) rfl rfl ?_
        refine ex_cI (vs := [vR 17, vI v5]) (st' := []) (F := (law_holds 17 v5 M)) (Or.inr (Or.inl ⟨rfl, (dg dc72 48 rfl)⟩)) rfl rfl (rk1 (LOC.st (Nat.le_of_ble_eq_true rfl) rfl) rfl) rfl (fun _ r9 => law_holds_ok (Z := Z) (d := e9) (by omega) isLaw17  r9) hf (fun z_22 M_21 he_20 hf => ?_)
        refine ex_if (t := 143) (dg dc72 49 rfl) rfl hf (fun _ hf => ?_) (fun _ hf => ?_)
        · refine ex_incD (dg dc72 71 rfl) rfl rfl (fun w_23 => ?_)
          show EX Z _ 72 _ [vR 157, j1, j2, j3, w_23, vI (v5 + 1)] [] _ _
          refine ex_goto (t := 71) (dg dc72 72 rfl) rfl rfl ?_
          exact ih (v5 + 1) M_21 _ _ _ _ hf
        · refine ex_pu (ls' := [vR 157, j1, j2, j3, j4, vI v5]) (st' := [vR 157]) (dg dc72 50 rfl) rfl rfl ?_
          refine ex_getF (dg dc72 51 rfl) rfl (LOC.st (Nat.le_of_ble_eq_true rfl) rfl) rfl ?_
          refine ex_getO (dg dc72 52 rfl) rfl (LOC.st (Nat.le_of_ble_eq_true rfl) rfl) rfl ?_
          show EX Z _ 72 _ [vR 157, j1, j2, j3, j4, vI v5] [vR 18] _ _
          refine ex_pu (ls' := [vR 157, j1, j2, j3, j4, vI v5]) (st' := [vI v5, vR 18]) (dg dc72 53 rfl) rfl rfl ?_
          refine ex_iald (dg dc72 54 rfl) (LOC.st (Nat.le_of_ble_eq_true rfl) rfl) rfl hf (fun _ hf => ?_)
          refine ex_pu (ls' := [vR 157, j1, j2, j3, j4, vI v5]) (st' := [vI (-1), vI (M_21 18 (v5).toNat)]) (dg dc72 55 rfl) rfl rfl ?_
          refine ex_icmp (t := 124) (dg dc72 56 rfl) rfl hf (fun _ hf => ?_) (fun _ hf => ?_)
          · refine ex_pu (ls' := [vR 157, j1, j2, j3, j4, vI v5]) (st' := [vR 157]) (dg dc72 61 rfl) rfl rfl ?_
            refine ex_pu (ls' := [vR 157, j1, j2, j3, j4, vI v5]) (st' := [vR 157, vR 157]) (dg dc72 62 rfl) rfl rfl ?_
            refine ex_getI (dg dc72 63 rfl) rfl (LOC.st (Nat.le_of_ble_eq_true rfl) rfl) rfl ?_
            refine ex_pu (ls' := [vR 157, j1, j2, j3, j4, vI v5]) (st' := [vR 157, vI (M_21 157 1), vR 157]) (dg dc72 64 rfl) rfl rfl ?_
            refine ex_getF (dg dc72 65 rfl) rfl (LOC.st (Nat.le_of_ble_eq_true rfl) rfl) rfl ?_
            refine ex_getO (dg dc72 66 rfl) rfl (LOC.st (Nat.le_of_ble_eq_true rfl) rfl) rfl ?_
            show EX Z _ 72 _ [vR 157, j1, j2, j3, j4, vI v5] [vR 18, vI (M_21 157 1), vR 157] _ _
            refine ex_pu (ls' := [vR 157, j1, j2, j3, j4, vI v5]) (st' := [vI v5, vR 18, vI (M_21 157 1), vR 157]) (dg dc72 67 rfl) rfl rfl ?_
            refine ex_iald (dg dc72 68 rfl) (LOC.st (Nat.le_of_ble_eq_true rfl) rfl) rfl hf (fun _ hf => ?_)
            refine ex_pu (ls' := [vR 157, j1, j2, j3, j4, vI v5]) (st' := [vI ((M_21 157 1) + (M_21 18 (v5).toNat)), vR 157]) (dg dc72 69 rfl) rfl rfl ?_
            refine ex_putI (dg dc72 70 rfl) rfl (LOC.st (Nat.le_of_ble_eq_true rfl) rfl) rfl rfl rfl ?_
            refine ex_gen hf (fun M_24 hM_25 hf => ?_)
            refine ex_incD (dg dc72 71 rfl) rfl rfl (fun w_26 => ?_)
            show EX Z _ 72 _ [vR 157, j1, j2, j3, w_26, vI (v5 + 1)] [] _ _
            refine ex_goto (t := 71) (dg dc72 72 rfl) rfl rfl ?_
            exact ih (v5 + 1) M_24 _ _ _ _ hf
          · refine ex_pu (ls' := [vR 157, j1, j2, j3, j4, vI v5]) (st' := [vR 157]) (dg dc72 57 rfl) rfl rfl ?_
            refine ex_pu (ls' := [vR 157, j1, j2, j3, j4, vI v5]) (st' := [vI 1, vR 157]) (dg dc72 58 rfl) rfl rfl ?_
            refine ex_putI (dg dc72 59 rfl) rfl (LOC.st (Nat.le_of_ble_eq_true rfl) rfl) rfl rfl rfl ?_
            refine ex_gen hf (fun M_27 hM_28 hf => ?_)
            refine ex_goto (t := 143) (dg dc72 60 rfl) rfl rfl ?_
            refine ex_incD (dg dc72 71 rfl) rfl rfl (fun w_29 => ?_)
            show EX Z _ 72 _ [vR 157, j1, j2, j3, w_29, vI (v5 + 1)] [] _ _
            refine ex_goto (t := 71) (dg dc72 72 rfl) rfl rfl ?_
            exact ih (v5 + 1) M_27 _ _ _ _ hf
def stps_judge (v1 : Int) (v2 : Int) (v3 : Int) (v4 : Int) (M : MM) : OR :=
  (sM (mU M 157 0 0) fun M_1 => (bif inB v1 16 then (sM (mU M_1 157 1 (M_1 12 (v1).toNat)) fun M_3 => (bif cmpB .gt (M_3 17 0) 0 then (bI (land_otherEnd 3 v1 v2 M_3) fun z_7 M_6 => (bV (law_tellRoad 17 v1 v2 z_7 v4 M_6) fun M_9 => (bI (jdk_bitCount v3 M_9) fun z_13 M_12 => (bI (land_worthOf 3 v3 M_12) fun z_16 M_15 => (bV (law_tellCarried 17 z_13 z_16 M_15) fun M_18 => (stps_judge_L71  (fun M_30 => some (rV, M_30)) FU 0 M_18)))))) else some (rV, M_3))) else none))
set_option maxRecDepth 4000 in
theorem stps_judge_ok {Z : Nat × (Nat → Int)} {d : Nat} (hd : 2 ≤ d) {M : MM}  {v1 v2 v3 v4 : Int} {res : AR × MM} (hf : stps_judge v1 v2 v3 v4 M = some res) : EX Z d 72 0 (ent 72 [vR 157, vI v1, vI v2, vI v3, vI v4]) [] M res := by
  obtain ⟨e9, rfl⟩ : ∃ e9, d = e9 + 1 := ⟨d - 1, by omega⟩
  unfold stps_judge at hf
  show EX Z _ 72 0 [vR 157, vI v1, vI v2, vI v3, vI v4, vU] [] M res
  refine ex_pu (ls' := [vR 157, vI v1, vI v2, vI v3, vI v4, vU]) (st' := [vR 157]) (dg dc72 0 rfl) rfl rfl ?_
  refine ex_pu (ls' := [vR 157, vI v1, vI v2, vI v3, vI v4, vU]) (st' := [vI 0, vR 157]) (dg dc72 1 rfl) rfl rfl ?_
  refine ex_putI (dg dc72 2 rfl) rfl (LOC.st (Nat.le_of_ble_eq_true rfl) rfl) rfl rfl rfl ?_
  refine ex_gen hf (fun M_1 hM_2 hf => ?_)
  refine ex_pu (ls' := [vR 157, vI v1, vI v2, vI v3, vI v4, vU]) (st' := [vR 157]) (dg dc72 3 rfl) rfl rfl ?_
  refine ex_pu (ls' := [vR 157, vI v1, vI v2, vI v3, vI v4, vU]) (st' := [vR 157, vR 157]) (dg dc72 4 rfl) rfl rfl ?_
  refine ex_getF (dg dc72 5 rfl) rfl (LOC.st (Nat.le_of_ble_eq_true rfl) rfl) rfl ?_
  refine ex_getO (dg dc72 6 rfl) rfl (LOC.st (Nat.le_of_ble_eq_true rfl) rfl) rfl ?_
  show EX Z _ 72 _ [vR 157, vI v1, vI v2, vI v3, vI v4, vU] [vR 12, vR 157] _ _
  refine ex_pu (ls' := [vR 157, vI v1, vI v2, vI v3, vI v4, vU]) (st' := [vI v1, vR 12, vR 157]) (dg dc72 7 rfl) rfl rfl ?_
  refine ex_iald (dg dc72 8 rfl) (LOC.st (Nat.le_of_ble_eq_true rfl) rfl) rfl hf (fun _ hf => ?_)
  refine ex_putI (dg dc72 9 rfl) rfl (LOC.st (Nat.le_of_ble_eq_true rfl) rfl) rfl rfl rfl ?_
  refine ex_gen hf (fun M_3 hM_4 hf => ?_)
  refine ex_pu (ls' := [vR 157, vI v1, vI v2, vI v3, vI v4, vU]) (st' := [vR 157]) (dg dc72 10 rfl) rfl rfl ?_
  refine ex_getF (dg dc72 11 rfl) rfl (LOC.st (Nat.le_of_ble_eq_true rfl) rfl) rfl ?_
  refine ex_getI (dg dc72 12 rfl) rfl (LOC.st (Nat.le_of_ble_eq_true rfl) rfl) rfl ?_
  refine ex_if (t := 29) (dg dc72 13 rfl) rfl hf (fun _ hf => ?_) (fun _ hf => ?_)
  · refine ex_pu (ls' := [vR 157, vI v1, vI v2, vI v3, vI v4, vU]) (st' := [vR 157]) (dg dc72 15 rfl) rfl rfl ?_
    refine ex_getF (dg dc72 16 rfl) rfl (LOC.st (Nat.le_of_ble_eq_true rfl) rfl) rfl ?_
    refine ex_pu (ls' := [vR 157, vI v1, vI v2, vI v3, vI v4, vU]) (st' := [vI v1, vR 17]) (dg dc72 17 rfl) rfl rfl ?_
    refine ex_pu (ls' := [vR 157, vI v1, vI v2, vI v3, vI v4, vU]) (st' := [vI v2, vI v1, vR 17]) (dg dc72 18 rfl) rfl rfl ?_
    refine ex_pu (ls' := [vR 157, vI v1, vI v2, vI v3, vI v4, vU]) (st' := [vR 157, vI v2, vI v1, vR 17]) (dg dc72 19 rfl) rfl rfl ?_
    refine ex_getF (dg dc72 20 rfl) rfl (LOC.st (Nat.le_of_ble_eq_true rfl) rfl) rfl ?_
    refine ex_pu (ls' := [vR 157, vI v1, vI v2, vI v3, vI v4, vU]) (st' := [vI v1, vR 3, vI v2, vI v1, vR 17]) (dg dc72 21 rfl) rfl rfl ?_
    refine ex_pu (ls' := [vR 157, vI v1, vI v2, vI v3, vI v4, vU]) (st' := [vI v2, vI v1, vR 3, vI v2, vI v1, vR 17]) (dg dc72 22 rfl) rfl rfl ?_
    refine ex_cI (vs := [vR 3, vI v1, vI v2]) (st' := [vI v2, vI v1, vR 17]) (F := (land_otherEnd 3 v1 v2 M_3)) (Or.inr (Or.inl ⟨rfl, (dg dc72 23 rfl)⟩)) rfl rfl (rk1 (LOC.st (Nat.le_of_ble_eq_true rfl) rfl) rfl) rfl (fun _ r9 => land_otherEnd_ok (Z := Z) (d := e9) (by omega) isLand3  r9) hf (fun z_7 M_6 he_5 hf => ?_)
    refine ex_pu (ls' := [vR 157, vI v1, vI v2, vI v3, vI v4, vU]) (st' := [vI v4, vI z_7, vI v2, vI v1, vR 17]) (dg dc72 24 rfl) rfl rfl ?_
    refine ex_cV (vs := [vR 17, vI v1, vI v2, vI z_7, vI v4]) (st' := []) (F := (law_tellRoad 17 v1 v2 z_7 v4 M_6)) (Or.inr (Or.inl ⟨rfl, (dg dc72 25 rfl)⟩)) rfl rfl (rk1 (LOC.st (Nat.le_of_ble_eq_true rfl) rfl) rfl) rfl (fun _ r9 => law_tellRoad_ok (Z := Z) (d := e9) (by omega) isLaw17  r9) hf (fun M_9 he_8 hf => ?_)
    refine ex_pu (ls' := [vR 157, vI v1, vI v2, vI v3, vI v4, vU]) (st' := [vR 157]) (dg dc72 26 rfl) rfl rfl ?_
    refine ex_getF (dg dc72 27 rfl) rfl (LOC.st (Nat.le_of_ble_eq_true rfl) rfl) rfl ?_
    refine ex_pu (ls' := [vR 157, vI v1, vI v2, vI v3, vI v4, vU]) (st' := [vI v3, vR 17]) (dg dc72 28 rfl) rfl rfl ?_
    refine ex_cI (vs := [vI v3]) (st' := [vR 17]) (F := (jdk_bitCount v3 M_9)) (Or.inl ⟨rfl, (dg dc72 29 rfl)⟩) rfl rfl (Or.inl rfl) rfl (fun _ r9 => jdk_bitCount_ok (Z := Z) (d := e9) (by omega)  r9) hf (fun z_13 M_12 he_11 hf => ?_)
    refine ex_pu (ls' := [vR 157, vI v1, vI v2, vI v3, vI v4, vU]) (st' := [vR 157, vI z_13, vR 17]) (dg dc72 30 rfl) rfl rfl ?_
    refine ex_getF (dg dc72 31 rfl) rfl (LOC.st (Nat.le_of_ble_eq_true rfl) rfl) rfl ?_
    refine ex_pu (ls' := [vR 157, vI v1, vI v2, vI v3, vI v4, vU]) (st' := [vI v3, vR 3, vI z_13, vR 17]) (dg dc72 32 rfl) rfl rfl ?_
    refine ex_cI (vs := [vR 3, vI v3]) (st' := [vI z_13, vR 17]) (F := (land_worthOf 3 v3 M_12)) (Or.inr (Or.inl ⟨rfl, (dg dc72 33 rfl)⟩)) rfl rfl (rk1 (LOC.st (Nat.le_of_ble_eq_true rfl) rfl) rfl) rfl (fun _ r9 => land_worthOf_ok (Z := Z) (d := e9) (by omega) isLand3  r9) hf (fun z_16 M_15 he_14 hf => ?_)
    refine ex_cV (vs := [vR 17, vI z_13, vI z_16]) (st' := []) (F := (law_tellCarried 17 z_13 z_16 M_15)) (Or.inr (Or.inl ⟨rfl, (dg dc72 34 rfl)⟩)) rfl rfl (rk1 (LOC.st (Nat.le_of_ble_eq_true rfl) rfl) rfl) rfl (fun _ r9 => law_tellCarried_ok (Z := Z) (d := e9) (by omega) isLaw17  r9) hf (fun M_18 he_17 hf => ?_)
    refine ex_pu (ls' := [vR 157, vI v1, vI v2, vI v3, vI v4, vU]) (st' := [vI 0]) (dg dc72 35 rfl) rfl rfl ?_
    refine ex_pu (ls' := [vR 157, vI v1, vI v2, vI v3, vI v4, vI 0]) (st' := []) (dg dc72 36 rfl) rfl rfl ?_
    refine stps_judge_L71_ok hd  ?_ FU 0 M_18 _ _ _ _ hf
    · intro M_30 j0_31 j1_32 j2_33 j3_34 j4_35 j5_36 hf
      exact ex_vre (dg dc72 73 rfl) rfl hf
  · exact ex_vre (dg dc72 14 rfl) rfl hf
-- GlassHill$Steps.arrival
def il73 : List (Nat × Instr × Nat) := [(0, .aload_n 0, 1), (1, .getfield 19, 3), (4, .iload_n 1, 1), (5, .iload_n 2, 1), (6, .invokevirtual 37, 3), (9, .istore 7, 2), (11, .iload 7, 2), (13, .iconst (-1), 1), (14, .if_icmp .eq 21, 3), (17, .iload_n 1, 1), (18, .iload_n 3, 1), (19, .if_icmp .eq 18, 3), (22, .aload_n 0, 1), (23, .getfield 19, 3), (26, .iload_n 2, 1), (27, .iload 4, 2), (29, .invokevirtual 65, 3), (32, .ifCond .eq 5, 3), (35, .iconst (-1), 1), (36, .ireturn, 1), (37, .aload_n 0, 1), (38, .iload_n 1, 1), (39, .iload_n 2, 1), (40, .iload 5, 2), (42, .iload 6, 2), (44, .invokevirtual 69, 3), (47, .aload_n 0, 1), (48, .getfield 9, 3), (51, .ifCond .ne 22, 3), (54, .aload_n 0, 1), (55, .getfield 19, 3), (58, .iload 7, 2), (60, .iload 6, 2), (62, .aload_n 0, 1), (63, .getfield 15, 3), (66, .iadd, 1), (67, .invokevirtual 72, 3), (70, .ifCond .eq 7, 3), (73, .iconst (-1), 1), (74, .goto 10, 3), (77, .iload 6, 2), (79, .aload_n 0, 1), (80, .getfield 15, 3), (83, .iadd, 1), (84, .ireturn, 1)]
theorem dc73 : dcs (mC 73) il73 := dc_of (by decide +kernel)
def stps_arrival_J37   (v1 v2 v5 v6 v7 : Int) (M : MM) : OR :=
  (bV (stps_judge v1 v2 v5 v6 M) fun M_5 => (bif cmpB .ne (M_5 157 0) 0 then some (rI (-1), M_5) else (bI (land_eatsAt 3 v7 (v6 + (M_5 157 1)) M_5) fun z_9 M_8 => (bif cmpB .eq z_9 0 then some (rI (v6 + (M_8 157 1)), M_8) else some (rI (-1), M_8)))))
set_option maxRecDepth 4000 in
theorem stps_arrival_J37_ok {Z : Nat × (Nat → Int)} {d : Nat} (hd : 3 ≤ d)   {res : AR × MM}  : ∀ (v1 v2 v5 v6 v7 : Int) (M : MM) (j3 j4 : AV), stps_arrival_J37   v1 v2 v5 v6 v7 M = some res → EX Z d 73 37 [vR 157, vI v1, vI v2, j3, j4, vI v5, vI v6, vI v7] [] M res := by
  obtain ⟨e9, rfl⟩ : ∃ e9, d = e9 + 1 := ⟨d - 1, by omega⟩
  intro v1 v2 v5 v6 v7 M j3 j4 hf
  unfold stps_arrival_J37 at hf
  refine ex_pu (ls' := [vR 157, vI v1, vI v2, j3, j4, vI v5, vI v6, vI v7]) (st' := [vR 157]) (dg dc73 20 rfl) rfl rfl ?_
  refine ex_pu (ls' := [vR 157, vI v1, vI v2, j3, j4, vI v5, vI v6, vI v7]) (st' := [vI v1, vR 157]) (dg dc73 21 rfl) rfl rfl ?_
  refine ex_pu (ls' := [vR 157, vI v1, vI v2, j3, j4, vI v5, vI v6, vI v7]) (st' := [vI v2, vI v1, vR 157]) (dg dc73 22 rfl) rfl rfl ?_
  refine ex_pu (ls' := [vR 157, vI v1, vI v2, j3, j4, vI v5, vI v6, vI v7]) (st' := [vI v5, vI v2, vI v1, vR 157]) (dg dc73 23 rfl) rfl rfl ?_
  refine ex_pu (ls' := [vR 157, vI v1, vI v2, j3, j4, vI v5, vI v6, vI v7]) (st' := [vI v6, vI v5, vI v2, vI v1, vR 157]) (dg dc73 24 rfl) rfl rfl ?_
  refine ex_cV (vs := [vR 157, vI v1, vI v2, vI v5, vI v6]) (st' := []) (F := (stps_judge v1 v2 v5 v6 M)) (Or.inr (Or.inl ⟨rfl, (dg dc73 25 rfl)⟩)) rfl rfl (rk1 (LOC.st (Nat.le_of_ble_eq_true rfl) rfl) rfl) rfl (fun _ r9 => stps_judge_ok (Z := Z) (d := e9) (by omega)  r9) hf (fun M_5 he_4 hf => ?_)
  refine ex_pu (ls' := [vR 157, vI v1, vI v2, j3, j4, vI v5, vI v6, vI v7]) (st' := [vR 157]) (dg dc73 26 rfl) rfl rfl ?_
  refine ex_getI (dg dc73 27 rfl) rfl (LOC.st (Nat.le_of_ble_eq_true rfl) rfl) rfl ?_
  refine ex_if (t := 73) (dg dc73 28 rfl) rfl hf (fun _ hf => ?_) (fun _ hf => ?_)
  · refine ex_pu (ls' := [vR 157, vI v1, vI v2, j3, j4, vI v5, vI v6, vI v7]) (st' := [vI (-1)]) (dg dc73 38 rfl) rfl rfl ?_
    refine ex_goto (t := 84) (dg dc73 39 rfl) rfl rfl ?_
    exact ex_ire (dg dc73 44 rfl) rfl hf
  · refine ex_pu (ls' := [vR 157, vI v1, vI v2, j3, j4, vI v5, vI v6, vI v7]) (st' := [vR 157]) (dg dc73 29 rfl) rfl rfl ?_
    refine ex_getF (dg dc73 30 rfl) rfl (LOC.st (Nat.le_of_ble_eq_true rfl) rfl) rfl ?_
    refine ex_pu (ls' := [vR 157, vI v1, vI v2, j3, j4, vI v5, vI v6, vI v7]) (st' := [vI v7, vR 3]) (dg dc73 31 rfl) rfl rfl ?_
    refine ex_pu (ls' := [vR 157, vI v1, vI v2, j3, j4, vI v5, vI v6, vI v7]) (st' := [vI v6, vI v7, vR 3]) (dg dc73 32 rfl) rfl rfl ?_
    refine ex_pu (ls' := [vR 157, vI v1, vI v2, j3, j4, vI v5, vI v6, vI v7]) (st' := [vR 157, vI v6, vI v7, vR 3]) (dg dc73 33 rfl) rfl rfl ?_
    refine ex_getI (dg dc73 34 rfl) rfl (LOC.st (Nat.le_of_ble_eq_true rfl) rfl) rfl ?_
    refine ex_pu (ls' := [vR 157, vI v1, vI v2, j3, j4, vI v5, vI v6, vI v7]) (st' := [vI (v6 + (M_5 157 1)), vI v7, vR 3]) (dg dc73 35 rfl) rfl rfl ?_
    refine ex_cI (vs := [vR 3, vI v7, vI (v6 + (M_5 157 1))]) (st' := []) (F := (land_eatsAt 3 v7 (v6 + (M_5 157 1)) M_5)) (Or.inr (Or.inl ⟨rfl, (dg dc73 36 rfl)⟩)) rfl rfl (rk1 (LOC.st (Nat.le_of_ble_eq_true rfl) rfl) rfl) rfl (fun _ r9 => land_eatsAt_ok (Z := Z) (d := e9) (by omega) isLand3  r9) hf (fun z_9 M_8 he_7 hf => ?_)
    refine ex_if (t := 77) (dg dc73 37 rfl) rfl hf (fun _ hf => ?_) (fun _ hf => ?_)
    · refine ex_pu (ls' := [vR 157, vI v1, vI v2, j3, j4, vI v5, vI v6, vI v7]) (st' := [vI v6]) (dg dc73 40 rfl) rfl rfl ?_
      refine ex_pu (ls' := [vR 157, vI v1, vI v2, j3, j4, vI v5, vI v6, vI v7]) (st' := [vR 157, vI v6]) (dg dc73 41 rfl) rfl rfl ?_
      refine ex_getI (dg dc73 42 rfl) rfl (LOC.st (Nat.le_of_ble_eq_true rfl) rfl) rfl ?_
      refine ex_pu (ls' := [vR 157, vI v1, vI v2, j3, j4, vI v5, vI v6, vI v7]) (st' := [vI (v6 + (M_8 157 1))]) (dg dc73 43 rfl) rfl rfl ?_
      exact ex_ire (dg dc73 44 rfl) rfl hf
    · refine ex_pu (ls' := [vR 157, vI v1, vI v2, j3, j4, vI v5, vI v6, vI v7]) (st' := [vI (-1)]) (dg dc73 38 rfl) rfl rfl ?_
      refine ex_goto (t := 84) (dg dc73 39 rfl) rfl rfl ?_
      exact ex_ire (dg dc73 44 rfl) rfl hf
def stps_arrival (v1 : Int) (v2 : Int) (v3 : Int) (v4 : Int) (v5 : Int) (v6 : Int) (M : MM) : OR :=
  (bI (land_otherEnd 3 v1 v2 M) fun z_3 M_2 => (bif cmpB .eq z_3 (-1) then some (rI (-1), M_2) else (bif cmpB .eq v1 v3 then (stps_arrival_J37   v1 v2 v5 v6 z_3 M_2) else (bI (land_isHeldBy 3 v2 v4 M_2) fun z_12 M_11 => (bif cmpB .eq z_12 0 then (stps_arrival_J37   v1 v2 v5 v6 z_3 M_11) else some (rI (-1), M_11))))))
set_option maxRecDepth 4000 in
theorem stps_arrival_ok {Z : Nat × (Nat → Int)} {d : Nat} (hd : 3 ≤ d) {M : MM}  {v1 v2 v3 v4 v5 v6 : Int} {res : AR × MM} (hf : stps_arrival v1 v2 v3 v4 v5 v6 M = some res) : EX Z d 73 0 (ent 73 [vR 157, vI v1, vI v2, vI v3, vI v4, vI v5, vI v6]) [] M res := by
  obtain ⟨e9, rfl⟩ : ∃ e9, d = e9 + 1 := ⟨d - 1, by omega⟩
  unfold stps_arrival at hf
  show EX Z _ 73 0 [vR 157, vI v1, vI v2, vI v3, vI v4, vI v5, vI v6, vU] [] M res
  refine ex_pu (ls' := [vR 157, vI v1, vI v2, vI v3, vI v4, vI v5, vI v6, vU]) (st' := [vR 157]) (dg dc73 0 rfl) rfl rfl ?_
  refine ex_getF (dg dc73 1 rfl) rfl (LOC.st (Nat.le_of_ble_eq_true rfl) rfl) rfl ?_
  refine ex_pu (ls' := [vR 157, vI v1, vI v2, vI v3, vI v4, vI v5, vI v6, vU]) (st' := [vI v1, vR 3]) (dg dc73 2 rfl) rfl rfl ?_
  refine ex_pu (ls' := [vR 157, vI v1, vI v2, vI v3, vI v4, vI v5, vI v6, vU]) (st' := [vI v2, vI v1, vR 3]) (dg dc73 3 rfl) rfl rfl ?_
  refine ex_cI (vs := [vR 3, vI v1, vI v2]) (st' := []) (F := (land_otherEnd 3 v1 v2 M)) (Or.inr (Or.inl ⟨rfl, (dg dc73 4 rfl)⟩)) rfl rfl (rk1 (LOC.st (Nat.le_of_ble_eq_true rfl) rfl) rfl) rfl (fun _ r9 => land_otherEnd_ok (Z := Z) (d := e9) (by omega) isLand3  r9) hf (fun z_3 M_2 he_1 hf => ?_)
  refine ex_pu (ls' := [vR 157, vI v1, vI v2, vI v3, vI v4, vI v5, vI v6, vI z_3]) (st' := []) (dg dc73 5 rfl) rfl rfl ?_
  refine ex_pu (ls' := [vR 157, vI v1, vI v2, vI v3, vI v4, vI v5, vI v6, vI z_3]) (st' := [vI z_3]) (dg dc73 6 rfl) rfl rfl ?_
  refine ex_pu (ls' := [vR 157, vI v1, vI v2, vI v3, vI v4, vI v5, vI v6, vI z_3]) (st' := [vI (-1), vI z_3]) (dg dc73 7 rfl) rfl rfl ?_
  refine ex_icmp (t := 35) (dg dc73 8 rfl) rfl hf (fun _ hf => ?_) (fun _ hf => ?_)
  · refine ex_pu (ls' := [vR 157, vI v1, vI v2, vI v3, vI v4, vI v5, vI v6, vI z_3]) (st' := [vI (-1)]) (dg dc73 18 rfl) rfl rfl ?_
    exact ex_ire (dg dc73 19 rfl) rfl hf
  · refine ex_pu (ls' := [vR 157, vI v1, vI v2, vI v3, vI v4, vI v5, vI v6, vI z_3]) (st' := [vI v1]) (dg dc73 9 rfl) rfl rfl ?_
    refine ex_pu (ls' := [vR 157, vI v1, vI v2, vI v3, vI v4, vI v5, vI v6, vI z_3]) (st' := [vI v3, vI v1]) (dg dc73 10 rfl) rfl rfl ?_
    refine ex_icmp (t := 37) (dg dc73 11 rfl) rfl hf (fun _ hf => ?_) (fun _ hf => ?_)
    · exact stps_arrival_J37_ok hd   v1 v2 v5 v6 z_3 M_2 _ _ hf
    · refine ex_pu (ls' := [vR 157, vI v1, vI v2, vI v3, vI v4, vI v5, vI v6, vI z_3]) (st' := [vR 157]) (dg dc73 12 rfl) rfl rfl ?_
      refine ex_getF (dg dc73 13 rfl) rfl (LOC.st (Nat.le_of_ble_eq_true rfl) rfl) rfl ?_
      refine ex_pu (ls' := [vR 157, vI v1, vI v2, vI v3, vI v4, vI v5, vI v6, vI z_3]) (st' := [vI v2, vR 3]) (dg dc73 14 rfl) rfl rfl ?_
      refine ex_pu (ls' := [vR 157, vI v1, vI v2, vI v3, vI v4, vI v5, vI v6, vI z_3]) (st' := [vI v4, vI v2, vR 3]) (dg dc73 15 rfl) rfl rfl ?_
      refine ex_cI (vs := [vR 3, vI v2, vI v4]) (st' := []) (F := (land_isHeldBy 3 v2 v4 M_2)) (Or.inr (Or.inl ⟨rfl, (dg dc73 16 rfl)⟩)) rfl rfl (rk1 (LOC.st (Nat.le_of_ble_eq_true rfl) rfl) rfl) rfl (fun _ r9 => land_isHeldBy_ok (Z := Z) (d := e9) (by omega) isLand3  r9) hf (fun z_12 M_11 he_10 hf => ?_)
      refine ex_if (t := 37) (dg dc73 17 rfl) rfl hf (fun _ hf => ?_) (fun _ hf => ?_)
      · exact stps_arrival_J37_ok hd   v1 v2 v5 v6 z_3 M_11 _ _ hf
      · refine ex_pu (ls' := [vR 157, vI v1, vI v2, vI v3, vI v4, vI v5, vI v6, vI z_3]) (st' := [vI (-1)]) (dg dc73 18 rfl) rfl rfl ?_
        exact ex_ire (dg dc73 19 rfl) rfl hf
-- GlassHill$TaleReader.readPlace
def il77 : List (Nat × Instr × Nat) := [(0, .aload_n 0, 1), (1, .getfield 15, 3), (4, .getfield 74, 3), (7, .bipush 10, 2), (9, .if_icmp .lt 18, 3), (12, .aload_n 0, 1), (13, .getfield 9, 3), (16, .aload_n 0, 1), (17, .getfield 9, 3), (20, .getfield 80, 3), (23, .invokevirtual 83, 3), (26, .return_, 1), (27, .aload_n 0, 1), (28, .getfield 15, 3), (31, .dup, 1), (32, .getfield 74, 3), (35, .iconst 1, 1), (36, .iadd, 1), (37, .putfield 74, 3), (40, .return_, 1)]
theorem dc77 : dcs (mC 77) il77 := dc_of (by decide +kernel)
def tale_readPlace  (M : MM) : OR :=
  (bif cmpB .lt (M 29 0) 10 then (sM (mU M 29 0 ((M 29 0) + 1)) fun M_1 => some (rV, M_1)) else (bV (tape_failAt (M 1 3) M) fun M_4 => some (rV, M_4)))
set_option maxRecDepth 4000 in
theorem tale_readPlace_ok {Z : Nat × (Nat → Int)} {d : Nat} (hd : 1 ≤ d) {M : MM}  {res : AR × MM} (hf : tale_readPlace  M = some res) : EX Z d 77 0 (ent 77 [vR 81]) [] M res := by
  obtain ⟨e9, rfl⟩ : ∃ e9, d = e9 + 1 := ⟨d - 1, by omega⟩
  unfold tale_readPlace at hf
  show EX Z _ 77 0 [vR 81] [] M res
  refine ex_pu (ls' := [vR 81]) (st' := [vR 81]) (dg dc77 0 rfl) rfl rfl ?_
  refine ex_getF (dg dc77 1 rfl) rfl (LOC.st (Nat.le_of_ble_eq_true rfl) rfl) rfl ?_
  refine ex_getI (dg dc77 2 rfl) rfl (LOC.st (Nat.le_of_ble_eq_true rfl) rfl) rfl ?_
  refine ex_pu (ls' := [vR 81]) (st' := [vI 10, vI (M 29 0)]) (dg dc77 3 rfl) rfl rfl ?_
  refine ex_icmp (t := 27) (dg dc77 4 rfl) rfl hf (fun _ hf => ?_) (fun _ hf => ?_)
  · refine ex_pu (ls' := [vR 81]) (st' := [vR 81]) (dg dc77 12 rfl) rfl rfl ?_
    refine ex_getF (dg dc77 13 rfl) rfl (LOC.st (Nat.le_of_ble_eq_true rfl) rfl) rfl ?_
    refine ex_pu (ls' := [vR 81]) (st' := [vR 29, vR 29]) (dg dc77 14 rfl) rfl rfl ?_
    refine ex_getI (dg dc77 15 rfl) rfl (LOC.st (Nat.le_of_ble_eq_true rfl) rfl) rfl ?_
    refine ex_pu (ls' := [vR 81]) (st' := [vI 1, vI (M 29 0), vR 29]) (dg dc77 16 rfl) rfl rfl ?_
    refine ex_pu (ls' := [vR 81]) (st' := [vI ((M 29 0) + 1), vR 29]) (dg dc77 17 rfl) rfl rfl ?_
    refine ex_putI (dg dc77 18 rfl) rfl (LOC.st (Nat.le_of_ble_eq_true rfl) rfl) rfl rfl rfl ?_
    refine ex_gen hf (fun M_1 hM_2 hf => ?_)
    exact ex_vre (dg dc77 19 rfl) rfl hf
  · refine ex_pu (ls' := [vR 81]) (st' := [vR 81]) (dg dc77 5 rfl) rfl rfl ?_
    refine ex_getF (dg dc77 6 rfl) rfl (LOC.st (Nat.le_of_ble_eq_true rfl) rfl) rfl ?_
    refine ex_pu (ls' := [vR 81]) (st' := [vR 81, vR 1]) (dg dc77 7 rfl) rfl rfl ?_
    refine ex_getF (dg dc77 8 rfl) rfl (LOC.st (Nat.le_of_ble_eq_true rfl) rfl) rfl ?_
    refine ex_getI (dg dc77 9 rfl) rfl (LOC.st (Nat.le_of_ble_eq_true rfl) rfl) rfl ?_
    refine ex_cV (vs := [vR 1, vI (M 1 3)]) (st' := []) (F := (tape_failAt (M 1 3) M)) (Or.inr (Or.inl ⟨rfl, (dg dc77 10 rfl)⟩)) rfl rfl (rk1 (LOC.st (Nat.le_of_ble_eq_true rfl) rfl) rfl) rfl (fun _ r9 => tape_failAt_ok (Z := Z) (d := e9) (by omega)  r9) hf (fun M_4 he_3 hf => ?_)
    exact ex_vre (dg dc77 11 rfl) rfl hf
-- GlassHill$Tape.isAtEnd
def il90 : List (Nat × Instr × Nat) := [(0, .aload_n 0, 1), (1, .invokevirtual 35, 3), (4, .aload_n 0, 1), (5, .getfield 25, 3), (8, .aload_n 0, 1), (9, .getfield 15, 3), (12, .if_icmp .lt 7, 3), (15, .iconst 1, 1), (16, .goto 4, 3), (19, .iconst 0, 1), (20, .ireturn, 1)]
theorem dc90 : dcs (mC 90) il90 := dc_of (by decide +kernel)
def tape_isAtEnd  (M : MM) : OR :=
  (bV (tape_skipBlanks  M) fun M_2 => (bif cmpB .lt (M_2 1 4) (M_2 1 1) then some (rI 0, M_2) else some (rI 1, M_2)))
set_option maxRecDepth 4000 in
theorem tape_isAtEnd_ok {Z : Nat × (Nat → Int)} {d : Nat} (hd : 1 ≤ d) {M : MM}  {res : AR × MM} (hf : tape_isAtEnd  M = some res) : EX Z d 90 0 (ent 90 [vR 1]) [] M res := by
  obtain ⟨e9, rfl⟩ : ∃ e9, d = e9 + 1 := ⟨d - 1, by omega⟩
  unfold tape_isAtEnd at hf
  show EX Z _ 90 0 [vR 1] [] M res
  refine ex_pu (ls' := [vR 1]) (st' := [vR 1]) (dg dc90 0 rfl) rfl rfl ?_
  refine ex_cV (vs := [vR 1]) (st' := []) (F := (tape_skipBlanks  M)) (Or.inr (Or.inl ⟨rfl, (dg dc90 1 rfl)⟩)) rfl rfl (rk1 (LOC.st (Nat.le_of_ble_eq_true rfl) rfl) rfl) rfl (fun _ r9 => tape_skipBlanks_ok (Z := Z) (d := e9) (by omega)  r9) hf (fun M_2 he_1 hf => ?_)
  refine ex_pu (ls' := [vR 1]) (st' := [vR 1]) (dg dc90 2 rfl) rfl rfl ?_
  refine ex_getI (dg dc90 3 rfl) rfl (LOC.st (Nat.le_of_ble_eq_true rfl) rfl) rfl ?_
  refine ex_pu (ls' := [vR 1]) (st' := [vR 1, vI (M_2 1 4)]) (dg dc90 4 rfl) rfl rfl ?_
  refine ex_getI (dg dc90 5 rfl) rfl (LOC.st (Nat.le_of_ble_eq_true rfl) rfl) rfl ?_
  refine ex_icmp (t := 19) (dg dc90 6 rfl) rfl hf (fun _ hf => ?_) (fun _ hf => ?_)
  · refine ex_pu (ls' := [vR 1]) (st' := [vI 0]) (dg dc90 9 rfl) rfl rfl ?_
    exact ex_ire (dg dc90 10 rfl) rfl hf
  · refine ex_pu (ls' := [vR 1]) (st' := [vI 1]) (dg dc90 7 rfl) rfl rfl ?_
    refine ex_goto (t := 20) (dg dc90 8 rfl) rfl rfl ?_
    exact ex_ire (dg dc90 10 rfl) rfl hf
-- GlassHill$Tape.fail
def il91 : List (Nat × Instr × Nat) := [(0, .aload_n 0, 1), (1, .invokevirtual 35, 3), (4, .aload_n 0, 1), (5, .aload_n 0, 1), (6, .getfield 25, 3), (9, .invokevirtual 38, 3), (12, .return_, 1)]
theorem dc91 : dcs (mC 91) il91 := dc_of (by decide +kernel)
def tape_fail  (M : MM) : OR :=
  (bV (tape_skipBlanks  M) fun M_2 => (bV (tape_failAt (M_2 1 4) M_2) fun M_5 => some (rV, M_5)))
set_option maxRecDepth 4000 in
theorem tape_fail_ok {Z : Nat × (Nat → Int)} {d : Nat} (hd : 1 ≤ d) {M : MM}  {res : AR × MM} (hf : tape_fail  M = some res) : EX Z d 91 0 (ent 91 [vR 1]) [] M res := by
  obtain ⟨e9, rfl⟩ : ∃ e9, d = e9 + 1 := ⟨d - 1, by omega⟩
  unfold tape_fail at hf
  show EX Z _ 91 0 [vR 1] [] M res
  refine ex_pu (ls' := [vR 1]) (st' := [vR 1]) (dg dc91 0 rfl) rfl rfl ?_
  refine ex_cV (vs := [vR 1]) (st' := []) (F := (tape_skipBlanks  M)) (Or.inr (Or.inl ⟨rfl, (dg dc91 1 rfl)⟩)) rfl rfl (rk1 (LOC.st (Nat.le_of_ble_eq_true rfl) rfl) rfl) rfl (fun _ r9 => tape_skipBlanks_ok (Z := Z) (d := e9) (by omega)  r9) hf (fun M_2 he_1 hf => ?_)
  refine ex_pu (ls' := [vR 1]) (st' := [vR 1]) (dg dc91 2 rfl) rfl rfl ?_
  refine ex_pu (ls' := [vR 1]) (st' := [vR 1, vR 1]) (dg dc91 3 rfl) rfl rfl ?_
  refine ex_getI (dg dc91 4 rfl) rfl (LOC.st (Nat.le_of_ble_eq_true rfl) rfl) rfl ?_
  refine ex_cV (vs := [vR 1, vI (M_2 1 4)]) (st' := []) (F := (tape_failAt (M_2 1 4) M_2)) (Or.inr (Or.inl ⟨rfl, (dg dc91 5 rfl)⟩)) rfl rfl (rk1 (LOC.st (Nat.le_of_ble_eq_true rfl) rfl) rfl) rfl (fun _ r9 => tape_failAt_ok (Z := Z) (d := e9) (by omega)  r9) hf (fun M_5 he_4 hf => ?_)
  exact ex_vre (dg dc91 6 rfl) rfl hf
-- GlassHill$Tape.tookWord
def il93 : List (Nat × Instr × Nat) := [(0, .aload_n 0, 1), (1, .getfield 19, 3), (4, .iconst (-1), 1), (5, .if_icmp .eq 5, 3), (8, .iconst 0, 1), (9, .ireturn, 1), (10, .aload_n 0, 1), (11, .invokevirtual 35, 3), (14, .iconst 0, 1), (15, .istore_n 2, 1), (16, .aload_n 0, 1), (17, .getfield 25, 3), (20, .iload_n 2, 1), (21, .iadd, 1), (22, .aload_n 0, 1), (23, .getfield 15, 3), (26, .if_icmp .ge 30, 3), (29, .aload_n 0, 1), (30, .getfield 11, 3), (33, .aload_n 0, 1), (34, .getfield 25, 3), (37, .iload_n 2, 1), (38, .iadd, 1), (39, .iaload, 1), (40, .bipush 97, 2), (42, .bipush 122, 2), (44, .invokestatic 42, 3), (47, .ifCond .eq 9, 3), (50, .iinc 2 1, 3), (53, .goto (-37), 3), (56, .iload_n 2, 1), (57, .aload_n 1, 1), (58, .invokevirtual 46, 3), (61, .if_icmp .eq 5, 3), (64, .iconst 0, 1), (65, .ireturn, 1), (66, .iconst 0, 1), (67, .istore_n 3, 1), (68, .iload_n 3, 1), (69, .iload_n 2, 1), (70, .if_icmp .ge 30, 3), (73, .aload_n 0, 1), (74, .getfield 11, 3), (77, .aload_n 0, 1), (78, .getfield 25, 3), (81, .iload_n 3, 1), (82, .iadd, 1), (83, .iaload, 1), (84, .aload_n 1, 1), (85, .iload_n 3, 1), (86, .invokevirtual 52, 3), (89, .if_icmp .eq 5, 3), (92, .iconst 0, 1), (93, .ireturn, 1), (94, .iinc 3 1, 3), (97, .goto (-29), 3), (100, .aload_n 0, 1), (101, .aload_n 0, 1), (102, .getfield 25, 3), (105, .putfield 22, 3), (108, .aload_n 0, 1), (109, .dup, 1), (110, .getfield 25, 3), (113, .iload_n 2, 1), (114, .iadd, 1), (115, .putfield 25, 3), (118, .iconst 1, 1), (119, .ireturn, 1)]
theorem dc93 : dcs (mC 93) il93 := dc_of (by decide +kernel)
def tape_tookWord_L16 (t1 : Nat) (K1 : Int → MM → OR) : Nat → Int → MM → OR
  | 0, _, _ => none
  | n + 1, v2, M => (bif cmpB .ge ((M 1 4) + v2) (M 1 1) then (K1 v2 M) else (bif inB ((M 1 4) + v2) 400 then (bI (tape_isWithin (M 2 (((M 1 4) + v2)).toNat) 97 122 M) fun z_6 M_5 => (bif cmpB .eq z_6 0 then (K1 v2 M_5) else (tape_tookWord_L16 t1 K1 n (v2 + 1) M_5))) else none))
set_option maxRecDepth 4000 in
theorem tape_tookWord_L16_ok {Z : Nat × (Nat → Int)} {d : Nat} (hd : 4 ≤ d) {t1 : Nat} (ht1 : t1 < 79) {K1 : Int → MM → OR} {res : AR × MM} (k1 : ∀ (x2 : Int) (M : MM) (j3 : AV), K1 x2 M = some res → EX Z d 93 56 [vR 1, vR (E0 + 2 + 2 * t1), vI x2, j3] [] M res) : ∀ (n : Nat) (v2 : Int) (M : MM) (j3 : AV), tape_tookWord_L16 t1 K1 n v2 M = some res → EX Z d 93 16 [vR 1, vR (E0 + 2 + 2 * t1), vI v2, j3] [] M res := by
  obtain ⟨e9, rfl⟩ : ∃ e9, d = e9 + 1 := ⟨d - 1, by omega⟩
  intro n
  induction n with
  | zero =>
    intro v2 M j3 hf
    unfold tape_tookWord_L16 at hf
    cases hf
  | succ n ih =>
    intro v2 M j3 hf
    unfold tape_tookWord_L16 at hf
    refine ex_pu (ls' := [vR 1, vR (E0 + 2 + 2 * t1), vI v2, j3]) (st' := [vR 1]) (dg dc93 10 rfl) rfl rfl ?_
    refine ex_getI (dg dc93 11 rfl) rfl (LOC.st (Nat.le_of_ble_eq_true rfl) rfl) rfl ?_
    refine ex_pu (ls' := [vR 1, vR (E0 + 2 + 2 * t1), vI v2, j3]) (st' := [vI v2, vI (M 1 4)]) (dg dc93 12 rfl) rfl rfl ?_
    refine ex_pu (ls' := [vR 1, vR (E0 + 2 + 2 * t1), vI v2, j3]) (st' := [vI ((M 1 4) + v2)]) (dg dc93 13 rfl) rfl rfl ?_
    refine ex_pu (ls' := [vR 1, vR (E0 + 2 + 2 * t1), vI v2, j3]) (st' := [vR 1, vI ((M 1 4) + v2)]) (dg dc93 14 rfl) rfl rfl ?_
    refine ex_getI (dg dc93 15 rfl) rfl (LOC.st (Nat.le_of_ble_eq_true rfl) rfl) rfl ?_
    refine ex_icmp (t := 56) (dg dc93 16 rfl) rfl hf (fun _ hf => ?_) (fun _ hf => ?_)
    · exact k1 v2 M _ hf
    · refine ex_pu (ls' := [vR 1, vR (E0 + 2 + 2 * t1), vI v2, j3]) (st' := [vR 1]) (dg dc93 17 rfl) rfl rfl ?_
      refine ex_getO (dg dc93 18 rfl) rfl (LOC.st (Nat.le_of_ble_eq_true rfl) rfl) rfl ?_
      show EX Z _ 93 _ [vR 1, vR (E0 + 2 + 2 * t1), vI v2, j3] [vR 2] _ _
      refine ex_pu (ls' := [vR 1, vR (E0 + 2 + 2 * t1), vI v2, j3]) (st' := [vR 1, vR 2]) (dg dc93 19 rfl) rfl rfl ?_
      refine ex_getI (dg dc93 20 rfl) rfl (LOC.st (Nat.le_of_ble_eq_true rfl) rfl) rfl ?_
      refine ex_pu (ls' := [vR 1, vR (E0 + 2 + 2 * t1), vI v2, j3]) (st' := [vI v2, vI (M 1 4), vR 2]) (dg dc93 21 rfl) rfl rfl ?_
      refine ex_pu (ls' := [vR 1, vR (E0 + 2 + 2 * t1), vI v2, j3]) (st' := [vI ((M 1 4) + v2), vR 2]) (dg dc93 22 rfl) rfl rfl ?_
      refine ex_iald (dg dc93 23 rfl) (LOC.st (Nat.le_of_ble_eq_true rfl) rfl) rfl hf (fun _ hf => ?_)
      refine ex_pu (ls' := [vR 1, vR (E0 + 2 + 2 * t1), vI v2, j3]) (st' := [vI 97, vI (M 2 (((M 1 4) + v2)).toNat)]) (dg dc93 24 rfl) rfl rfl ?_
      refine ex_pu (ls' := [vR 1, vR (E0 + 2 + 2 * t1), vI v2, j3]) (st' := [vI 122, vI 97, vI (M 2 (((M 1 4) + v2)).toNat)]) (dg dc93 25 rfl) rfl rfl ?_
      refine ex_cI (vs := [vI (M 2 (((M 1 4) + v2)).toNat), vI 97, vI 122]) (st' := []) (F := (tape_isWithin (M 2 (((M 1 4) + v2)).toNat) 97 122 M)) (Or.inl ⟨rfl, (dg dc93 26 rfl)⟩) rfl rfl (Or.inl rfl) rfl (fun _ r9 => tape_isWithin_ok (Z := Z) (d := e9) (by omega)  r9) hf (fun z_6 M_5 he_4 hf => ?_)
      refine ex_if (t := 56) (dg dc93 27 rfl) rfl hf (fun _ hf => ?_) (fun _ hf => ?_)
      · exact k1 v2 M_5 _ hf
      · refine ex_pu (ls' := [vR 1, vR (E0 + 2 + 2 * t1), vI (v2 + 1), j3]) (st' := []) (dg dc93 28 rfl) rfl rfl ?_
        refine ex_goto (t := 16) (dg dc93 29 rfl) rfl rfl ?_
        exact ih (v2 + 1) M_5 _ hf
def tape_tookWord_L68 (t1 : Nat) (v2 : Int) (K1 : MM → OR) (K2 : MM → OR) : Nat → Int → MM → OR
  | 0, _, _ => none
  | n + 1, v3, M => (bif cmpB .ge v3 v2 then (K1  M) else (bif inB ((M 1 4) + v3) 400 then (bI (jdk_charAt t1 v3 M) fun z_15 M_14 => (bif cmpB .eq (M 2 (((M 1 4) + v3)).toNat) z_15 then (tape_tookWord_L68 t1 v2 K1 K2 n (v3 + 1) M_14) else (K2  M_14))) else none))
set_option maxRecDepth 4000 in
theorem tape_tookWord_L68_ok {Z : Nat × (Nat → Int)} {d : Nat} (hd : 4 ≤ d) {t1 : Nat} (ht1 : t1 < 79) {v2 : Int} {K1 : MM → OR} {K2 : MM → OR} {res : AR × MM} (k1 : ∀ (M : MM) (j1 j3 : AV), K1  M = some res → EX Z d 93 100 [vR 1, j1, vI v2, j3] [] M res) (k2 : ∀ (M : MM) (j0 j1 j2 j3 : AV), K2  M = some res → EX Z d 93 92 [j0, j1, j2, j3] [] M res) : ∀ (n : Nat) (v3 : Int) (M : MM), tape_tookWord_L68 t1 v2 K1 K2 n v3 M = some res → EX Z d 93 68 [vR 1, vR (E0 + 2 + 2 * t1), vI v2, vI v3] [] M res := by
  obtain ⟨e9, rfl⟩ : ∃ e9, d = e9 + 1 := ⟨d - 1, by omega⟩
  intro n
  induction n with
  | zero =>
    intro v3 M hf
    unfold tape_tookWord_L68 at hf
    cases hf
  | succ n ih =>
    intro v3 M hf
    unfold tape_tookWord_L68 at hf
    refine ex_pu (ls' := [vR 1, vR (E0 + 2 + 2 * t1), vI v2, vI v3]) (st' := [vI v3]) (dg dc93 38 rfl) rfl rfl ?_
    refine ex_pu (ls' := [vR 1, vR (E0 + 2 + 2 * t1), vI v2, vI v3]) (st' := [vI v2, vI v3]) (dg dc93 39 rfl) rfl rfl ?_
    refine ex_icmp (t := 100) (dg dc93 40 rfl) rfl hf (fun _ hf => ?_) (fun _ hf => ?_)
    · exact k1  M _ _ hf
    · refine ex_pu (ls' := [vR 1, vR (E0 + 2 + 2 * t1), vI v2, vI v3]) (st' := [vR 1]) (dg dc93 41 rfl) rfl rfl ?_
      refine ex_getO (dg dc93 42 rfl) rfl (LOC.st (Nat.le_of_ble_eq_true rfl) rfl) rfl ?_
      show EX Z _ 93 _ [vR 1, vR (E0 + 2 + 2 * t1), vI v2, vI v3] [vR 2] _ _
      refine ex_pu (ls' := [vR 1, vR (E0 + 2 + 2 * t1), vI v2, vI v3]) (st' := [vR 1, vR 2]) (dg dc93 43 rfl) rfl rfl ?_
      refine ex_getI (dg dc93 44 rfl) rfl (LOC.st (Nat.le_of_ble_eq_true rfl) rfl) rfl ?_
      refine ex_pu (ls' := [vR 1, vR (E0 + 2 + 2 * t1), vI v2, vI v3]) (st' := [vI v3, vI (M 1 4), vR 2]) (dg dc93 45 rfl) rfl rfl ?_
      refine ex_pu (ls' := [vR 1, vR (E0 + 2 + 2 * t1), vI v2, vI v3]) (st' := [vI ((M 1 4) + v3), vR 2]) (dg dc93 46 rfl) rfl rfl ?_
      refine ex_iald (dg dc93 47 rfl) (LOC.st (Nat.le_of_ble_eq_true rfl) rfl) rfl hf (fun _ hf => ?_)
      refine ex_pu (ls' := [vR 1, vR (E0 + 2 + 2 * t1), vI v2, vI v3]) (st' := [vR (E0 + 2 + 2 * t1), vI (M 2 (((M 1 4) + v3)).toNat)]) (dg dc93 48 rfl) rfl rfl ?_
      refine ex_pu (ls' := [vR 1, vR (E0 + 2 + 2 * t1), vI v2, vI v3]) (st' := [vI v3, vR (E0 + 2 + 2 * t1), vI (M 2 (((M 1 4) + v3)).toNat)]) (dg dc93 49 rfl) rfl rfl ?_
      refine ex_cI (vs := [vR (E0 + 2 + 2 * t1), vI v3]) (st' := [vI (M 2 (((M 1 4) + v3)).toNat)]) (F := (jdk_charAt t1 v3 M)) (Or.inr (Or.inl ⟨rfl, (dg dc93 50 rfl)⟩)) rfl rfl (rkT ht1 rfl) rfl (fun _ r9 => jdk_charAt_ok (Z := Z) (d := e9) (by omega) ht1 r9) hf (fun z_15 M_14 he_13 hf => ?_)
      refine ex_icmp (t := 94) (dg dc93 51 rfl) rfl hf (fun _ hf => ?_) (fun _ hf => ?_)
      · refine ex_pu (ls' := [vR 1, vR (E0 + 2 + 2 * t1), vI v2, vI (v3 + 1)]) (st' := []) (dg dc93 54 rfl) rfl rfl ?_
        refine ex_goto (t := 68) (dg dc93 55 rfl) rfl rfl ?_
        exact ih (v3 + 1) M_14 hf
      · exact k2  M_14 _ _ _ _ hf
def tape_tookWord_J56 (t1 : Nat)  (v2 : Int) (M : MM) : OR :=
  (bI (jdk_length t1 M) fun z_12 M_11 => (bif cmpB .eq v2 z_12 then (tape_tookWord_L68 t1 v2 (fun M_16 => (sM (mU M_16 1 3 (M_16 1 4)) fun M_19 => (sM (mU M_19 1 4 ((M_19 1 4) + v2)) fun M_21 => some (rI 1, M_21)))) (fun M_23 => some (rI 0, M_23)) FU 0 M_11) else some (rI 0, M_11)))
set_option maxRecDepth 4000 in
theorem tape_tookWord_J56_ok {Z : Nat × (Nat → Int)} {d : Nat} (hd : 4 ≤ d) {t1 : Nat} (ht1 : t1 < 79)  {res : AR × MM}  : ∀ (v2 : Int) (M : MM) (j3 : AV), tape_tookWord_J56 t1  v2 M = some res → EX Z d 93 56 [vR 1, vR (E0 + 2 + 2 * t1), vI v2, j3] [] M res := by
  obtain ⟨e9, rfl⟩ : ∃ e9, d = e9 + 1 := ⟨d - 1, by omega⟩
  intro v2 M j3 hf
  unfold tape_tookWord_J56 at hf
  refine ex_pu (ls' := [vR 1, vR (E0 + 2 + 2 * t1), vI v2, j3]) (st' := [vI v2]) (dg dc93 30 rfl) rfl rfl ?_
  refine ex_pu (ls' := [vR 1, vR (E0 + 2 + 2 * t1), vI v2, j3]) (st' := [vR (E0 + 2 + 2 * t1), vI v2]) (dg dc93 31 rfl) rfl rfl ?_
  refine ex_cI (vs := [vR (E0 + 2 + 2 * t1)]) (st' := [vI v2]) (F := (jdk_length t1 M)) (Or.inr (Or.inl ⟨rfl, (dg dc93 32 rfl)⟩)) rfl rfl (rkT ht1 rfl) rfl (fun _ r9 => jdk_length_ok (Z := Z) (d := e9) (by omega) ht1 r9) hf (fun z_12 M_11 he_10 hf => ?_)
  refine ex_icmp (t := 66) (dg dc93 33 rfl) rfl hf (fun _ hf => ?_) (fun _ hf => ?_)
  · refine ex_pu (ls' := [vR 1, vR (E0 + 2 + 2 * t1), vI v2, j3]) (st' := [vI 0]) (dg dc93 36 rfl) rfl rfl ?_
    refine ex_pu (ls' := [vR 1, vR (E0 + 2 + 2 * t1), vI v2, vI 0]) (st' := []) (dg dc93 37 rfl) rfl rfl ?_
    refine tape_tookWord_L68_ok hd ht1 ?_ ?_ FU 0 M_11 hf
    · intro M_16 j1_17 j3_18 hf
      refine ex_pu (ls' := [vR 1, j1_17, vI v2, j3_18]) (st' := [vR 1]) (dg dc93 56 rfl) rfl rfl ?_
      refine ex_pu (ls' := [vR 1, j1_17, vI v2, j3_18]) (st' := [vR 1, vR 1]) (dg dc93 57 rfl) rfl rfl ?_
      refine ex_getI (dg dc93 58 rfl) rfl (LOC.st (Nat.le_of_ble_eq_true rfl) rfl) rfl ?_
      refine ex_putI (dg dc93 59 rfl) rfl (LOC.st (Nat.le_of_ble_eq_true rfl) rfl) rfl rfl rfl ?_
      refine ex_gen hf (fun M_19 hM_20 hf => ?_)
      refine ex_pu (ls' := [vR 1, j1_17, vI v2, j3_18]) (st' := [vR 1]) (dg dc93 60 rfl) rfl rfl ?_
      refine ex_pu (ls' := [vR 1, j1_17, vI v2, j3_18]) (st' := [vR 1, vR 1]) (dg dc93 61 rfl) rfl rfl ?_
      refine ex_getI (dg dc93 62 rfl) rfl (LOC.st (Nat.le_of_ble_eq_true rfl) rfl) rfl ?_
      refine ex_pu (ls' := [vR 1, j1_17, vI v2, j3_18]) (st' := [vI v2, vI (M_19 1 4), vR 1]) (dg dc93 63 rfl) rfl rfl ?_
      refine ex_pu (ls' := [vR 1, j1_17, vI v2, j3_18]) (st' := [vI ((M_19 1 4) + v2), vR 1]) (dg dc93 64 rfl) rfl rfl ?_
      refine ex_putI (dg dc93 65 rfl) rfl (LOC.st (Nat.le_of_ble_eq_true rfl) rfl) rfl rfl rfl ?_
      refine ex_gen hf (fun M_21 hM_22 hf => ?_)
      refine ex_pu (ls' := [vR 1, j1_17, vI v2, j3_18]) (st' := [vI 1]) (dg dc93 66 rfl) rfl rfl ?_
      exact ex_ire (dg dc93 67 rfl) rfl hf
    · intro M_23 j0_24 j1_25 j2_26 j3_27 hf
      refine ex_pu (ls' := [j0_24, j1_25, j2_26, j3_27]) (st' := [vI 0]) (dg dc93 52 rfl) rfl rfl ?_
      exact ex_ire (dg dc93 53 rfl) rfl hf
  · refine ex_pu (ls' := [vR 1, vR (E0 + 2 + 2 * t1), vI v2, j3]) (st' := [vI 0]) (dg dc93 34 rfl) rfl rfl ?_
    exact ex_ire (dg dc93 35 rfl) rfl hf
def tape_tookWord (t1 : Nat) (M : MM) : OR :=
  (bif cmpB .eq (M 1 2) (-1) then (bV (tape_skipBlanks  M) fun M_2 => (tape_tookWord_L16 t1 (fun v2_7 M_8 => (tape_tookWord_J56 t1  v2_7 M_8)) FU 0 M_2)) else some (rI 0, M))
set_option maxRecDepth 4000 in
theorem tape_tookWord_ok {Z : Nat × (Nat → Int)} {d : Nat} (hd : 4 ≤ d) {M : MM} {t1 : Nat} (ht1 : t1 < 79) {res : AR × MM} (hf : tape_tookWord t1 M = some res) : EX Z d 93 0 (ent 93 [vR 1, vR (E0 + 2 + 2 * t1)]) [] M res := by
  obtain ⟨e9, rfl⟩ : ∃ e9, d = e9 + 1 := ⟨d - 1, by omega⟩
  unfold tape_tookWord at hf
  show EX Z _ 93 0 [vR 1, vR (E0 + 2 + 2 * t1), vU, vU] [] M res
  refine ex_pu (ls' := [vR 1, vR (E0 + 2 + 2 * t1), vU, vU]) (st' := [vR 1]) (dg dc93 0 rfl) rfl rfl ?_
  refine ex_getI (dg dc93 1 rfl) rfl (LOC.st (Nat.le_of_ble_eq_true rfl) rfl) rfl ?_
  refine ex_pu (ls' := [vR 1, vR (E0 + 2 + 2 * t1), vU, vU]) (st' := [vI (-1), vI (M 1 2)]) (dg dc93 2 rfl) rfl rfl ?_
  refine ex_icmp (t := 10) (dg dc93 3 rfl) rfl hf (fun _ hf => ?_) (fun _ hf => ?_)
  · refine ex_pu (ls' := [vR 1, vR (E0 + 2 + 2 * t1), vU, vU]) (st' := [vR 1]) (dg dc93 6 rfl) rfl rfl ?_
    refine ex_cV (vs := [vR 1]) (st' := []) (F := (tape_skipBlanks  M)) (Or.inr (Or.inl ⟨rfl, (dg dc93 7 rfl)⟩)) rfl rfl (rk1 (LOC.st (Nat.le_of_ble_eq_true rfl) rfl) rfl) rfl (fun _ r9 => tape_skipBlanks_ok (Z := Z) (d := e9) (by omega)  r9) hf (fun M_2 he_1 hf => ?_)
    refine ex_pu (ls' := [vR 1, vR (E0 + 2 + 2 * t1), vU, vU]) (st' := [vI 0]) (dg dc93 8 rfl) rfl rfl ?_
    refine ex_pu (ls' := [vR 1, vR (E0 + 2 + 2 * t1), vI 0, vU]) (st' := []) (dg dc93 9 rfl) rfl rfl ?_
    refine tape_tookWord_L16_ok hd ht1 ?_ FU 0 M_2 _ hf
    · intro v2_7 M_8 j3_9 hf
      exact tape_tookWord_J56_ok hd ht1  v2_7 M_8 _ hf
  · refine ex_pu (ls' := [vR 1, vR (E0 + 2 + 2 * t1), vU, vU]) (st' := [vI 0]) (dg dc93 4 rfl) rfl rfl ?_
    exact ex_ire (dg dc93 5 rfl) rfl hf
