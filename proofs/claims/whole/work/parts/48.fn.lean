/-! ===== METHODS 8 ===== -/
-- GlassHill$TaleReader.readText
def il75 : List (Nat × Instr × Nat) := [(0, .aload_n 0, 1), (1, .getfield 9, 3), (4, .invokevirtual 23, 3), (7, .aload_n 0, 1), (8, .getfield 9, 3), (11, .invokevirtual 28, 3), (14, .ifCond .ne 7, 3), (17, .iconst 1, 1), (18, .goto 4, 3), (21, .iconst 0, 1), (22, .istore_n 1, 1), (23, .iconst 0, 1), (24, .istore_n 2, 1), (25, .iload_n 2, 1), (26, .bipush 14, 2), (28, .if_icmp .gt 43, 3), (31, .iload_n 1, 1), (32, .ifCond .eq 39, 3), (35, .iload_n 2, 1), (36, .bipush 14, 2), (38, .if_icmp .ne 13, 3), (41, .aload_n 0, 1), (42, .getfield 9, 3), (45, .invokevirtual 32, 3), (48, .goto 7, 3), (51, .aload_n 0, 1), (52, .invokevirtual 35, 3), (55, .aload_n 0, 1), (56, .getfield 9, 3), (59, .bipush 59, 2), (61, .invokevirtual 38, 3), (64, .istore_n 1, 1), (65, .iinc 2 1, 3), (68, .goto (-43), 3), (71, .aload_n 0, 1), (72, .getfield 9, 3), (75, .invokevirtual 42, 3), (78, .ireturn, 1)]
theorem dc75 : dcs (mC 75) il75 := dc_of (by decide +kernel)
def tale_readText_L25  (K1 : MM → OR) : Nat → Int → Int → MM → OR
  | 0, _, _, _ => none
  | n + 1, v1, v2, M => (bif cmpB .gt v2 14 then (K1  M) else (bif cmpB .eq v1 0 then (K1  M) else (bif cmpB .ne v2 14 then (bV (tale_readLine  M) fun M_8 => (bI (tape_tookMark 59 M_8) fun z_12 M_11 => (tale_readText_L25  K1 n z_12 (v2 + 1) M_11))) else (bV (tape_fail  M) fun M_14 => (bI (tape_tookMark 59 M_14) fun z_18 M_17 => (tale_readText_L25  K1 n z_18 (v2 + 1) M_17))))))
set_option maxRecDepth 4000 in
theorem tale_readText_L25_ok {Z : Nat × (Nat → Int)} {d : Nat} (hd : 9 ≤ d)  {K1 : MM → OR} {res : AR × MM} (k1 : ∀ (M : MM) (j1 j2 : AV), K1  M = some res → EX Z d 75 71 [vR 81, j1, j2] [] M res) : ∀ (n : Nat) (v1 v2 : Int) (M : MM), tale_readText_L25  K1 n v1 v2 M = some res → EX Z d 75 25 [vR 81, vI v1, vI v2] [] M res := by
  obtain ⟨e9, rfl⟩ : ∃ e9, d = e9 + 1 := ⟨d - 1, by omega⟩
  intro n
  induction n with
  | zero =>
    intro v1 v2 M hf
    unfold tale_readText_L25 at hf
    cases hf
  | succ n ih =>
    intro v1 v2 M hf
    unfold tale_readText_L25 at hf
    refine ex_pu (ls' := [vR 81, vI v1, vI v2]) (st' := [vI v2]) (dg dc75 13 rfl) rfl rfl ?_
    refine ex_pu (ls' := [vR 81, vI v1, vI v2]) (st' := [vI 14, vI v2]) (dg dc75 14 rfl) rfl rfl ?_
    refine ex_icmp (t := 71) (dg dc75 15 rfl) rfl hf (fun _ hf => ?_) (fun _ hf => ?_)
    · exact k1  M _ _ hf
    · refine ex_pu (ls' := [vR 81, vI v1, vI v2]) (st' := [vI v1]) (dg dc75 16 rfl) rfl rfl ?_
      refine ex_if (t := 71) (dg dc75 17 rfl) rfl hf (fun _ hf => ?_) (fun _ hf => ?_)
      · exact k1  M _ _ hf
      · refine ex_pu (ls' := [vR 81, vI v1, vI v2]) (st' := [vI v2]) (dg dc75 18 rfl) rfl rfl ?_
        refine ex_pu (ls' := [vR 81, vI v1, vI v2]) (st' := [vI 14, vI v2]) (dg dc75 19 rfl) rfl rfl ?_
        refine ex_icmp (t := 51) (dg dc75 20 rfl) rfl hf (fun _ hf => ?_) (fun _ hf => ?_)
        · refine ex_pu (ls' := [vR 81, vI v1, vI v2]) (st' := [vR 81]) (dg dc75 25 rfl) rfl rfl ?_
          refine ex_cV (vs := [vR 81]) (st' := []) (F := (tale_readLine  M)) (Or.inr (Or.inl ⟨rfl, (dg dc75 26 rfl)⟩)) rfl rfl (rk1 (LOC.st (Nat.le_of_ble_eq_true rfl) rfl) rfl) rfl (fun _ r9 => tale_readLine_ok (Z := Z) (d := e9) (by omega)  r9) hf (fun M_8 he_7 hf => ?_)
          refine ex_pu (ls' := [vR 81, vI v1, vI v2]) (st' := [vR 81]) (dg dc75 27 rfl) rfl rfl ?_
          refine ex_getF (dg dc75 28 rfl) rfl (LOC.st (Nat.le_of_ble_eq_true rfl) rfl) rfl ?_
          refine ex_pu (ls' := [vR 81, vI v1, vI v2]) (st' := [vI 59, vR 1]) (dg dc75 29 rfl) rfl rfl ?_
          refine ex_cI (vs := [vR 1, vI 59]) (st' := []) (F := (tape_tookMark 59 M_8)) (Or.inr (Or.inl ⟨rfl, (dg dc75 30 rfl)⟩)) rfl rfl (rk1 (LOC.st (Nat.le_of_ble_eq_true rfl) rfl) rfl) rfl (fun _ r9 => tape_tookMark_ok (Z := Z) (d := e9) (by omega)  r9) hf (fun z_12 M_11 he_10 hf => ?_)
          refine ex_pu (ls' := [vR 81, vI z_12, vI v2]) (st' := []) (dg dc75 31 rfl) rfl rfl ?_
          refine ex_pu (ls' := [vR 81, vI z_12, vI (v2 + 1)]) (st' := []) (dg dc75 32 rfl) rfl rfl ?_
          refine ex_goto (t := 25) (dg dc75 33 rfl) rfl rfl ?_
          exact ih z_12 (v2 + 1) M_11 hf
        · refine ex_pu (ls' := [vR 81, vI v1, vI v2]) (st' := [vR 81]) (dg dc75 21 rfl) rfl rfl ?_
          refine ex_getF (dg dc75 22 rfl) rfl (LOC.st (Nat.le_of_ble_eq_true rfl) rfl) rfl ?_
          refine ex_cV (vs := [vR 1]) (st' := []) (F := (tape_fail  M)) (Or.inr (Or.inl ⟨rfl, (dg dc75 23 rfl)⟩)) rfl rfl (rk1 (LOC.st (Nat.le_of_ble_eq_true rfl) rfl) rfl) rfl (fun _ r9 => tape_fail_ok (Z := Z) (d := e9) (by omega)  r9) hf (fun M_14 he_13 hf => ?_)
          refine ex_goto (t := 55) (dg dc75 24 rfl) rfl rfl ?_
          refine ex_pu (ls' := [vR 81, vI v1, vI v2]) (st' := [vR 81]) (dg dc75 27 rfl) rfl rfl ?_
          refine ex_getF (dg dc75 28 rfl) rfl (LOC.st (Nat.le_of_ble_eq_true rfl) rfl) rfl ?_
          refine ex_pu (ls' := [vR 81, vI v1, vI v2]) (st' := [vI 59, vR 1]) (dg dc75 29 rfl) rfl rfl ?_
          refine ex_cI (vs := [vR 1, vI 59]) (st' := []) (F := (tape_tookMark 59 M_14)) (Or.inr (Or.inl ⟨rfl, (dg dc75 30 rfl)⟩)) rfl rfl (rk1 (LOC.st (Nat.le_of_ble_eq_true rfl) rfl) rfl) rfl (fun _ r9 => tape_tookMark_ok (Z := Z) (d := e9) (by omega)  r9) hf (fun z_18 M_17 he_16 hf => ?_)
          refine ex_pu (ls' := [vR 81, vI z_18, vI v2]) (st' := []) (dg dc75 31 rfl) rfl rfl ?_
          refine ex_pu (ls' := [vR 81, vI z_18, vI (v2 + 1)]) (st' := []) (dg dc75 32 rfl) rfl rfl ?_
          refine ex_goto (t := 25) (dg dc75 33 rfl) rfl rfl ?_
          exact ih z_18 (v2 + 1) M_17 hf
def tale_readText_J22   (s0 : Int) (M : MM) : OR :=
  (tale_readText_L25  (fun M_19 => (bI (tape_endText  M_19) fun z_24 M_23 => (bif zo z_24 then some (rI z_24, M_23) else none))) FU s0 0 M)
set_option maxRecDepth 4000 in
theorem tale_readText_J22_ok {Z : Nat × (Nat → Int)} {d : Nat} (hd : 9 ≤ d)   {res : AR × MM}  : ∀ (s0 : Int) (M : MM) (j1 j2 : AV), tale_readText_J22   s0 M = some res → EX Z d 75 22 [vR 81, j1, j2] [vI s0] M res := by
  obtain ⟨e9, rfl⟩ : ∃ e9, d = e9 + 1 := ⟨d - 1, by omega⟩
  intro s0 M j1 j2 hf
  unfold tale_readText_J22 at hf
  refine ex_pu (ls' := [vR 81, vI s0, j2]) (st' := []) (dg dc75 10 rfl) rfl rfl ?_
  refine ex_pu (ls' := [vR 81, vI s0, j2]) (st' := [vI 0]) (dg dc75 11 rfl) rfl rfl ?_
  refine ex_pu (ls' := [vR 81, vI s0, vI 0]) (st' := []) (dg dc75 12 rfl) rfl rfl ?_
  refine tale_readText_L25_ok hd  ?_ FU s0 0 M hf
  · intro M_19 j1_20 j2_21 hf
    refine ex_pu (ls' := [vR 81, j1_20, j2_21]) (st' := [vR 81]) (dg dc75 34 rfl) rfl rfl ?_
    refine ex_getF (dg dc75 35 rfl) rfl (LOC.st (Nat.le_of_ble_eq_true rfl) rfl) rfl ?_
    refine ex_cI (vs := [vR 1]) (st' := []) (F := (tape_endText  M_19)) (Or.inr (Or.inl ⟨rfl, (dg dc75 36 rfl)⟩)) rfl rfl (rk1 (LOC.st (Nat.le_of_ble_eq_true rfl) rfl) rfl) rfl (fun _ r9 => tape_endText_ok (Z := Z) (d := e9) (by omega)  r9) hf (fun z_24 M_23 he_22 hf => ?_)
    exact ex_irb (dg dc75 37 rfl) rfl hf
def tale_readText  (M : MM) : OR :=
  (bV (tape_startText  M) fun M_2 => (bI (tape_isAtEnd  M_2) fun z_6 M_5 => (bif cmpB .ne z_6 0 then (tale_readText_J22   0 M_5) else (tale_readText_J22   1 M_5))))
set_option maxRecDepth 4000 in
theorem tale_readText_ok {Z : Nat × (Nat → Int)} {d : Nat} (hd : 9 ≤ d) {M : MM}  {res : AR × MM} (hf : tale_readText  M = some res) : EX Z d 75 0 (ent 75 [vR 81]) [] M res := by
  obtain ⟨e9, rfl⟩ : ∃ e9, d = e9 + 1 := ⟨d - 1, by omega⟩
  unfold tale_readText at hf
  show EX Z _ 75 0 [vR 81, vU, vU] [] M res
  refine ex_pu (ls' := [vR 81, vU, vU]) (st' := [vR 81]) (dg dc75 0 rfl) rfl rfl ?_
  refine ex_getF (dg dc75 1 rfl) rfl (LOC.st (Nat.le_of_ble_eq_true rfl) rfl) rfl ?_
  refine ex_cV (vs := [vR 1]) (st' := []) (F := (tape_startText  M)) (Or.inr (Or.inl ⟨rfl, (dg dc75 2 rfl)⟩)) rfl rfl (rk1 (LOC.st (Nat.le_of_ble_eq_true rfl) rfl) rfl) rfl (fun _ r9 => tape_startText_ok (Z := Z) (d := e9) (by omega)  r9) hf (fun M_2 he_1 hf => ?_)
  refine ex_pu (ls' := [vR 81, vU, vU]) (st' := [vR 81]) (dg dc75 3 rfl) rfl rfl ?_
  refine ex_getF (dg dc75 4 rfl) rfl (LOC.st (Nat.le_of_ble_eq_true rfl) rfl) rfl ?_
  refine ex_cI (vs := [vR 1]) (st' := []) (F := (tape_isAtEnd  M_2)) (Or.inr (Or.inl ⟨rfl, (dg dc75 5 rfl)⟩)) rfl rfl (rk1 (LOC.st (Nat.le_of_ble_eq_true rfl) rfl) rfl) rfl (fun _ r9 => tape_isAtEnd_ok (Z := Z) (d := e9) (by omega)  r9) hf (fun z_6 M_5 he_4 hf => ?_)
  refine ex_if (t := 21) (dg dc75 6 rfl) rfl hf (fun _ hf => ?_) (fun _ hf => ?_)
  · refine ex_pu (ls' := [vR 81, vU, vU]) (st' := [vI 0]) (dg dc75 9 rfl) rfl rfl ?_
    exact tale_readText_J22_ok hd   0 M_5 _ _ hf
  · refine ex_pu (ls' := [vR 81, vU, vU]) (st' := [vI 1]) (dg dc75 7 rfl) rfl rfl ?_
    refine ex_goto (t := 22) (dg dc75 8 rfl) rfl rfl ?_
    exact tale_readText_J22_ok hd   1 M_5 _ _ hf
-- GlassHill.tale
def il112 : List (Nat × Instr × Nat) := [(0, .aload_n 0, 1), (1, .getfield 37, 3), (4, .aload_n 0, 1), (5, .getfield 19, 3), (8, .invokevirtual 126, 3), (11, .aload_n 0, 1), (12, .getfield 43, 3), (15, .aload_n 0, 1), (16, .getfield 33, 3), (19, .invokevirtual 129, 3), (22, .aload_n 0, 1), (23, .getfield 64, 3), (26, .invokevirtual 132, 3), (29, .ifCond .ne 13, 3), (32, .new 136, 3), (35, .dup, 1), (36, .ldc 138, 2), (38, .invokespecial 140, 3), (41, .athrow, 1), (42, .aload_n 0, 1), (43, .getfield 19, 3), (46, .getfield 143, 3), (49, .bipush 12, 2), (51, .if_icmp .lt 13, 3), (54, .new 146, 3), (57, .dup, 1), (58, .ldc 148, 2), (60, .invokespecial 150, 3), (63, .athrow, 1), (64, .aload_n 0, 1), (65, .getfield 37, 3), (68, .dup, 1), (69, .getfield 143, 3), (72, .iconst 1, 1), (73, .iadd, 1), (74, .putfield 143, 3), (77, .aload_n 0, 1), (78, .getfield 19, 3), (81, .aload_n 0, 1), (82, .getfield 37, 3), (85, .invokevirtual 126, 3), (88, .aload_n 0, 1), (89, .getfield 33, 3), (92, .aload_n 0, 1), (93, .getfield 43, 3), (96, .invokevirtual 129, 3), (99, .aload_n 0, 1), (100, .invokevirtual 151, 3), (103, .aload_n 0, 1), (104, .getfield 19, 3), (107, .getfield 143, 3), (110, .ireturn, 1)]
theorem dc112 : dcs (mC 112) il112 := dc_of (by decide +kernel)
def gh_tale  (M : MM) : OR :=
  (bV (land_copyFrom 29 3 M) fun M_2 => (bV (jny_copyFrom 49 23 M_2) fun M_5 => (bI (tale_readText  M_5) fun z_9 M_8 => (bif cmpB .ne z_9 0 then (bif cmpB .lt (M_8 3 4) 12 then (sM (mU M_8 29 4 ((M_8 29 4) + 1)) fun M_10 => (bV (land_copyFrom 3 29 M_10) fun M_13 => (bV (jny_copyFrom 23 49 M_13) fun M_16 => (bV (gh_forgetActs  M_16) fun M_19 => some (rI (M_19 3 4), M_19))))) else thx 17 M_8) else thx 13 M_8))))
set_option maxRecDepth 4000 in
theorem gh_tale_ok {Z : Nat × (Nat → Int)} {d : Nat} (hd : 10 ≤ d) {M : MM}  {res : AR × MM} (hf : gh_tale  M = some res) : EX Z d 112 0 (ent 112 [vR 0]) [] M res := by
  obtain ⟨e9, rfl⟩ : ∃ e9, d = e9 + 1 := ⟨d - 1, by omega⟩
  unfold gh_tale at hf
  show EX Z _ 112 0 [vR 0] [] M res
  refine ex_pu (ls' := [vR 0]) (st' := [vR 0]) (dg dc112 0 rfl) rfl rfl ?_
  refine ex_getF (dg dc112 1 rfl) rfl (LOC.st (Nat.le_of_ble_eq_true rfl) rfl) rfl ?_
  refine ex_pu (ls' := [vR 0]) (st' := [vR 0, vR 29]) (dg dc112 2 rfl) rfl rfl ?_
  refine ex_getF (dg dc112 3 rfl) rfl (LOC.st (Nat.le_of_ble_eq_true rfl) rfl) rfl ?_
  refine ex_cV (vs := [vR 29, vR 3]) (st' := []) (F := (land_copyFrom 29 3 M)) (Or.inr (Or.inl ⟨rfl, (dg dc112 4 rfl)⟩)) rfl rfl (rk1 (LOC.st (Nat.le_of_ble_eq_true rfl) rfl) rfl) rfl (fun _ r9 => land_copyFrom_ok (Z := Z) (d := e9) (by omega) isLand29 isLand3  r9) hf (fun M_2 he_1 hf => ?_)
  refine ex_pu (ls' := [vR 0]) (st' := [vR 0]) (dg dc112 5 rfl) rfl rfl ?_
  refine ex_getF (dg dc112 6 rfl) rfl (LOC.st (Nat.le_of_ble_eq_true rfl) rfl) rfl ?_
  refine ex_pu (ls' := [vR 0]) (st' := [vR 0, vR 49]) (dg dc112 7 rfl) rfl rfl ?_
  refine ex_getF (dg dc112 8 rfl) rfl (LOC.st (Nat.le_of_ble_eq_true rfl) rfl) rfl ?_
  refine ex_cV (vs := [vR 49, vR 23]) (st' := []) (F := (jny_copyFrom 49 23 M_2)) (Or.inr (Or.inl ⟨rfl, (dg dc112 9 rfl)⟩)) rfl rfl (rk1 (LOC.st (Nat.le_of_ble_eq_true rfl) rfl) rfl) rfl (fun _ r9 => jny_copyFrom_ok (Z := Z) (d := e9) (by omega) isJny49 isJny23  r9) hf (fun M_5 he_4 hf => ?_)
  refine ex_pu (ls' := [vR 0]) (st' := [vR 0]) (dg dc112 10 rfl) rfl rfl ?_
  refine ex_getF (dg dc112 11 rfl) rfl (LOC.st (Nat.le_of_ble_eq_true rfl) rfl) rfl ?_
  refine ex_cI (vs := [vR 81]) (st' := []) (F := (tale_readText  M_5)) (Or.inr (Or.inl ⟨rfl, (dg dc112 12 rfl)⟩)) rfl rfl (rk1 (LOC.st (Nat.le_of_ble_eq_true rfl) rfl) rfl) rfl (fun _ r9 => tale_readText_ok (Z := Z) (d := e9) (by omega)  r9) hf (fun z_9 M_8 he_7 hf => ?_)
  refine ex_if (t := 42) (dg dc112 13 rfl) rfl hf (fun _ hf => ?_) (fun _ hf => ?_)
  · refine ex_pu (ls' := [vR 0]) (st' := [vR 0]) (dg dc112 19 rfl) rfl rfl ?_
    refine ex_getF (dg dc112 20 rfl) rfl (LOC.st (Nat.le_of_ble_eq_true rfl) rfl) rfl ?_
    refine ex_getI (dg dc112 21 rfl) rfl (LOC.st (Nat.le_of_ble_eq_true rfl) rfl) rfl ?_
    refine ex_pu (ls' := [vR 0]) (st' := [vI 12, vI (M_8 3 4)]) (dg dc112 22 rfl) rfl rfl ?_
    refine ex_icmp (t := 64) (dg dc112 23 rfl) rfl hf (fun _ hf => ?_) (fun _ hf => ?_)
    · refine ex_pu (ls' := [vR 0]) (st' := [vR 0]) (dg dc112 29 rfl) rfl rfl ?_
      refine ex_getF (dg dc112 30 rfl) rfl (LOC.st (Nat.le_of_ble_eq_true rfl) rfl) rfl ?_
      refine ex_pu (ls' := [vR 0]) (st' := [vR 29, vR 29]) (dg dc112 31 rfl) rfl rfl ?_
      refine ex_getI (dg dc112 32 rfl) rfl (LOC.st (Nat.le_of_ble_eq_true rfl) rfl) rfl ?_
      refine ex_pu (ls' := [vR 0]) (st' := [vI 1, vI (M_8 29 4), vR 29]) (dg dc112 33 rfl) rfl rfl ?_
      refine ex_pu (ls' := [vR 0]) (st' := [vI ((M_8 29 4) + 1), vR 29]) (dg dc112 34 rfl) rfl rfl ?_
      refine ex_putI (dg dc112 35 rfl) rfl (LOC.st (Nat.le_of_ble_eq_true rfl) rfl) rfl rfl rfl ?_
      refine ex_gen hf (fun M_10 hM_11 hf => ?_)
      refine ex_pu (ls' := [vR 0]) (st' := [vR 0]) (dg dc112 36 rfl) rfl rfl ?_
      refine ex_getF (dg dc112 37 rfl) rfl (LOC.st (Nat.le_of_ble_eq_true rfl) rfl) rfl ?_
      refine ex_pu (ls' := [vR 0]) (st' := [vR 0, vR 3]) (dg dc112 38 rfl) rfl rfl ?_
      refine ex_getF (dg dc112 39 rfl) rfl (LOC.st (Nat.le_of_ble_eq_true rfl) rfl) rfl ?_
      refine ex_cV (vs := [vR 3, vR 29]) (st' := []) (F := (land_copyFrom 3 29 M_10)) (Or.inr (Or.inl ⟨rfl, (dg dc112 40 rfl)⟩)) rfl rfl (rk1 (LOC.st (Nat.le_of_ble_eq_true rfl) rfl) rfl) rfl (fun _ r9 => land_copyFrom_ok (Z := Z) (d := e9) (by omega) isLand3 isLand29  r9) hf (fun M_13 he_12 hf => ?_)
      refine ex_pu (ls' := [vR 0]) (st' := [vR 0]) (dg dc112 41 rfl) rfl rfl ?_
      refine ex_getF (dg dc112 42 rfl) rfl (LOC.st (Nat.le_of_ble_eq_true rfl) rfl) rfl ?_
      refine ex_pu (ls' := [vR 0]) (st' := [vR 0, vR 23]) (dg dc112 43 rfl) rfl rfl ?_
      refine ex_getF (dg dc112 44 rfl) rfl (LOC.st (Nat.le_of_ble_eq_true rfl) rfl) rfl ?_
      refine ex_cV (vs := [vR 23, vR 49]) (st' := []) (F := (jny_copyFrom 23 49 M_13)) (Or.inr (Or.inl ⟨rfl, (dg dc112 45 rfl)⟩)) rfl rfl (rk1 (LOC.st (Nat.le_of_ble_eq_true rfl) rfl) rfl) rfl (fun _ r9 => jny_copyFrom_ok (Z := Z) (d := e9) (by omega) isJny23 isJny49  r9) hf (fun M_16 he_15 hf => ?_)
      refine ex_pu (ls' := [vR 0]) (st' := [vR 0]) (dg dc112 46 rfl) rfl rfl ?_
      refine ex_cV (vs := [vR 0]) (st' := []) (F := (gh_forgetActs  M_16)) (Or.inr (Or.inl ⟨rfl, (dg dc112 47 rfl)⟩)) rfl rfl (rk1 (LOC.st (Nat.le_of_ble_eq_true rfl) rfl) rfl) rfl (fun _ r9 => gh_forgetActs_ok (Z := Z) (d := e9) (by omega)  r9) hf (fun M_19 he_18 hf => ?_)
      refine ex_pu (ls' := [vR 0]) (st' := [vR 0]) (dg dc112 48 rfl) rfl rfl ?_
      refine ex_getF (dg dc112 49 rfl) rfl (LOC.st (Nat.le_of_ble_eq_true rfl) rfl) rfl ?_
      refine ex_getI (dg dc112 50 rfl) rfl (LOC.st (Nat.le_of_ble_eq_true rfl) rfl) rfl ?_
      exact ex_ire (dg dc112 51 rfl) rfl hf
    · exact ex_thr (ci := 17) (is := 148) (ic := 150) (ln := 9) (dg dc112 24 rfl) rfl (exN_of rfl (dg dc112 25 rfl) (dg dc112 26 rfl) (dg dc112 27 rfl) rfl rfl rfl) (dg dc112 28 rfl) rfl ⟨by decide, by decide⟩ hf
  · exact ex_thr (ci := 13) (is := 138) (ic := 140) (ln := 9) (dg dc112 14 rfl) rfl (exN_of rfl (dg dc112 15 rfl) (dg dc112 16 rfl) (dg dc112 17 rfl) rfl rfl rfl) (dg dc112 18 rfl) rfl ⟨by decide, by decide⟩ hf
-- GlassHillLaw.tale
def il303 : List (Nat × Instr × Nat) := [(0, .aload_n 1, 1), (1, .iconst 0, 1), (2, .aload_n 0, 1), (3, .invokevirtual 7, 3), (6, .i2l, 1), (7, .lastore, 1), (8, .goto 9, 3), (11, .astore_n 2, 1), (12, .iconst 1, 1), (13, .ireturn, 1), (14, .astore_n 2, 1), (15, .iconst 2, 1), (16, .ireturn, 1), (17, .iconst 0, 1), (18, .ireturn, 1)]
theorem dc303 : dcs (mC 303) il303 := dc_of (by decide +kernel)
def drv_tale  (M : MM) : OR :=
  (bH (gh_tale  M) (fun z_3 M_2 => (bif inB 0 1 then (sM (mU M_2 181 0 (w32 z_3)) fun M_4 => some (rI 0, M_4)) else none)) fun c_6 M_2 => (bif Nat.beq c_6 13 then some (rI 1, M_2) else (bif Nat.beq c_6 17 then some (rI 2, M_2) else none)))
set_option maxRecDepth 4000 in
theorem drv_tale_ok {Z : Nat × (Nat → Int)} {d : Nat} (hd : 11 ≤ d) {M : MM}  {res : AR × MM} (hf : drv_tale  M = some res) : EX Z d 303 0 (ent 303 [vR 0, vR 181]) [] M res := by
  obtain ⟨e9, rfl⟩ : ∃ e9, d = e9 + 1 := ⟨d - 1, by omega⟩
  unfold drv_tale at hf
  show EX Z _ 303 0 [vR 0, vR 181, vU] [] M res
  refine ex_pu (ls' := [vR 0, vR 181, vU]) (st' := [vR 181]) (dg dc303 0 rfl) rfl rfl ?_
  refine ex_pu (ls' := [vR 0, vR 181, vU]) (st' := [vI 0, vR 181]) (dg dc303 1 rfl) rfl rfl ?_
  refine ex_pu (ls' := [vR 0, vR 181, vU]) (st' := [vR 0, vI 0, vR 181]) (dg dc303 2 rfl) rfl rfl ?_
  refine ex_cH (vs := [vR 0]) (st' := [vI 0, vR 181]) (F := (gh_tale  M)) (Or.inr (Or.inl ⟨rfl, (dg dc303 3 rfl)⟩)) rfl rfl (rk1 (LOC.st (Nat.le_of_ble_eq_true rfl) rfl) rfl) (fun _ r9 => gh_tale_ok (Z := Z) (d := e9) (by omega)  r9) hf (fun z_3 M_2 he_1 hf => ?_) (fun c_6 M_2 he_1 hf => ?_)
  · refine ex_pu (ls' := [vR 0, vR 181, vU]) (st' := [vJ (w32 z_3), vI 0, vR 181]) (dg dc303 4 rfl) rfl rfl ?_
    refine ex_last (dg dc303 5 rfl) (LOC.st (Nat.le_of_ble_eq_true rfl) rfl) rfl rfl hf (fun _ hf => ?_)
    refine ex_gen hf (fun M_4 hM_5 hf => ?_)
    refine ex_goto (t := 17) (dg dc303 6 rfl) rfl rfl ?_
    refine ex_pu (ls' := [vR 0, vR 181, vU]) (st' := [vI 0]) (dg dc303 13 rfl) rfl rfl ?_
    exact ex_ire (dg dc303 14 rfl) rfl hf
  · refine ex_bif hf (fun hb hf => ?_) (fun _ hf => ?_)
    · obtain rfl := bq hb
      refine ex_hnd (vs := [vR 0]) (st' := [vI 0, vR 181]) (ci := 13) (g := 11) (k0 := 2) (g2 := 12) (Or.inr (Or.inl ⟨rfl, (dg dc303 3 rfl)⟩)) rfl rfl (fun _ hR => RK.calO hR rfl (rk1 (LOC.st (Nat.le_of_ble_eq_true rfl) rfl) rfl)) ⟨by decide, by decide⟩ (by decide +kernel) (Or.inl ⟨2, rfl, (dg dc303 7 rfl), rfl⟩) (blt_ok rfl) (gh_tale_ok (Z := Z) (d := e9) (by omega)  he_1) ?_
      show EX Z _ 303 12 [vR 0, vR 181, vU] [] M_2 res
      refine ex_pu (ls' := [vR 0, vR 181, vU]) (st' := [vI 1]) (dg dc303 8 rfl) rfl rfl ?_
      exact ex_ire (dg dc303 9 rfl) rfl hf
    · refine ex_bif hf (fun hb hf => ?_) (fun _ hf => ?_)
      · obtain rfl := bq hb
        refine ex_hnd (vs := [vR 0]) (st' := [vI 0, vR 181]) (ci := 17) (g := 14) (k0 := 2) (g2 := 15) (Or.inr (Or.inl ⟨rfl, (dg dc303 3 rfl)⟩)) rfl rfl (fun _ hR => RK.calO hR rfl (rk1 (LOC.st (Nat.le_of_ble_eq_true rfl) rfl) rfl)) ⟨by decide, by decide⟩ (by decide +kernel) (Or.inl ⟨2, rfl, (dg dc303 10 rfl), rfl⟩) (blt_ok rfl) (gh_tale_ok (Z := Z) (d := e9) (by omega)  he_1) ?_
        show EX Z _ 303 15 [vR 0, vR 181, vU] [] M_2 res
        refine ex_pu (ls' := [vR 0, vR 181, vU]) (st' := [vI 2]) (dg dc303 11 rfl) rfl rfl ?_
        exact ex_ire (dg dc303 12 rfl) rfl hf
      · cases hf
-- GlassHill$LawReader.readText
def il28 : List (Nat × Instr × Nat) := [(0, .aload_n 0, 1), (1, .getfield 9, 3), (4, .invokevirtual 19, 3), (7, .aload_n 0, 1), (8, .getfield 15, 3), (11, .iconst 0, 1), (12, .putfield 24, 3), (15, .aload_n 0, 1), (16, .getfield 15, 3), (19, .iconst 0, 1), (20, .putfield 30, 3), (23, .aload_n 0, 1), (24, .getfield 9, 3), (27, .invokevirtual 33, 3), (30, .ifCond .ne 7, 3), (33, .iconst 1, 1), (34, .goto 4, 3), (37, .iconst 0, 1), (38, .istore_n 1, 1), (39, .iconst 0, 1), (40, .istore_n 2, 1), (41, .iload_n 2, 1), (42, .bipush 12, 2), (44, .if_icmp .gt 44, 3), (47, .iload_n 1, 1), (48, .ifCond .eq 40, 3), (51, .iload_n 2, 1), (52, .bipush 12, 2), (54, .if_icmp .ne 13, 3), (57, .aload_n 0, 1), (58, .getfield 9, 3), (61, .invokevirtual 37, 3), (64, .goto 8, 3), (67, .aload_n 0, 1), (68, .iload_n 2, 1), (69, .invokevirtual 40, 3), (72, .aload_n 0, 1), (73, .getfield 9, 3), (76, .bipush 59, 2), (78, .invokevirtual 44, 3), (81, .istore_n 1, 1), (82, .iinc 2 1, 3), (85, .goto (-44), 3), (88, .aload_n 0, 1), (89, .getfield 9, 3), (92, .invokevirtual 48, 3), (95, .ireturn, 1)]
theorem dc28 : dcs (mC 28) il28 := dc_of (by decide +kernel)
def lawr_readText_L41  (K1 : MM → OR) : Nat → Int → Int → MM → OR
  | 0, _, _, _ => none
  | n + 1, v1, v2, M => (bif cmpB .gt v2 12 then (K1  M) else (bif cmpB .eq v1 0 then (K1  M) else (bif cmpB .ne v2 12 then (bV (lawr_readLine v2 M) fun M_12 => (bI (tape_tookMark 59 M_12) fun z_16 M_15 => (lawr_readText_L41  K1 n z_16 (v2 + 1) M_15))) else (bV (tape_fail  M) fun M_18 => (bI (tape_tookMark 59 M_18) fun z_22 M_21 => (lawr_readText_L41  K1 n z_22 (v2 + 1) M_21))))))
set_option maxRecDepth 4000 in
theorem lawr_readText_L41_ok {Z : Nat × (Nat → Int)} {d : Nat} (hd : 48 ≤ d)  {K1 : MM → OR} {res : AR × MM} (k1 : ∀ (M : MM) (j1 j2 : AV), K1  M = some res → EX Z d 28 88 [vR 82, j1, j2] [] M res) : ∀ (n : Nat) (v1 v2 : Int) (M : MM), lawr_readText_L41  K1 n v1 v2 M = some res → EX Z d 28 41 [vR 82, vI v1, vI v2] [] M res := by
  obtain ⟨e9, rfl⟩ : ∃ e9, d = e9 + 1 := ⟨d - 1, by omega⟩
  intro n
  induction n with
  | zero =>
    intro v1 v2 M hf
    unfold lawr_readText_L41 at hf
    cases hf
  | succ n ih =>
    intro v1 v2 M hf
    unfold lawr_readText_L41 at hf
    refine ex_pu (ls' := [vR 82, vI v1, vI v2]) (st' := [vI v2]) (dg dc28 21 rfl) rfl rfl ?_
    refine ex_pu (ls' := [vR 82, vI v1, vI v2]) (st' := [vI 12, vI v2]) (dg dc28 22 rfl) rfl rfl ?_
    refine ex_icmp (t := 88) (dg dc28 23 rfl) rfl hf (fun _ hf => ?_) (fun _ hf => ?_)
    · exact k1  M _ _ hf
    · refine ex_pu (ls' := [vR 82, vI v1, vI v2]) (st' := [vI v1]) (dg dc28 24 rfl) rfl rfl ?_
      refine ex_if (t := 88) (dg dc28 25 rfl) rfl hf (fun _ hf => ?_) (fun _ hf => ?_)
      · exact k1  M _ _ hf
      · refine ex_pu (ls' := [vR 82, vI v1, vI v2]) (st' := [vI v2]) (dg dc28 26 rfl) rfl rfl ?_
        refine ex_pu (ls' := [vR 82, vI v1, vI v2]) (st' := [vI 12, vI v2]) (dg dc28 27 rfl) rfl rfl ?_
        refine ex_icmp (t := 67) (dg dc28 28 rfl) rfl hf (fun _ hf => ?_) (fun _ hf => ?_)
        · refine ex_pu (ls' := [vR 82, vI v1, vI v2]) (st' := [vR 82]) (dg dc28 33 rfl) rfl rfl ?_
          refine ex_pu (ls' := [vR 82, vI v1, vI v2]) (st' := [vI v2, vR 82]) (dg dc28 34 rfl) rfl rfl ?_
          refine ex_cV (vs := [vR 82, vI v2]) (st' := []) (F := (lawr_readLine v2 M)) (Or.inr (Or.inl ⟨rfl, (dg dc28 35 rfl)⟩)) rfl rfl (rk1 (LOC.st (Nat.le_of_ble_eq_true rfl) rfl) rfl) rfl (fun _ r9 => lawr_readLine_ok (Z := Z) (d := e9) (by omega)  r9) hf (fun M_12 he_11 hf => ?_)
          refine ex_pu (ls' := [vR 82, vI v1, vI v2]) (st' := [vR 82]) (dg dc28 36 rfl) rfl rfl ?_
          refine ex_getF (dg dc28 37 rfl) rfl (LOC.st (Nat.le_of_ble_eq_true rfl) rfl) rfl ?_
          refine ex_pu (ls' := [vR 82, vI v1, vI v2]) (st' := [vI 59, vR 1]) (dg dc28 38 rfl) rfl rfl ?_
          refine ex_cI (vs := [vR 1, vI 59]) (st' := []) (F := (tape_tookMark 59 M_12)) (Or.inr (Or.inl ⟨rfl, (dg dc28 39 rfl)⟩)) rfl rfl (rk1 (LOC.st (Nat.le_of_ble_eq_true rfl) rfl) rfl) rfl (fun _ r9 => tape_tookMark_ok (Z := Z) (d := e9) (by omega)  r9) hf (fun z_16 M_15 he_14 hf => ?_)
          refine ex_pu (ls' := [vR 82, vI z_16, vI v2]) (st' := []) (dg dc28 40 rfl) rfl rfl ?_
          refine ex_pu (ls' := [vR 82, vI z_16, vI (v2 + 1)]) (st' := []) (dg dc28 41 rfl) rfl rfl ?_
          refine ex_goto (t := 41) (dg dc28 42 rfl) rfl rfl ?_
          exact ih z_16 (v2 + 1) M_15 hf
        · refine ex_pu (ls' := [vR 82, vI v1, vI v2]) (st' := [vR 82]) (dg dc28 29 rfl) rfl rfl ?_
          refine ex_getF (dg dc28 30 rfl) rfl (LOC.st (Nat.le_of_ble_eq_true rfl) rfl) rfl ?_
          refine ex_cV (vs := [vR 1]) (st' := []) (F := (tape_fail  M)) (Or.inr (Or.inl ⟨rfl, (dg dc28 31 rfl)⟩)) rfl rfl (rk1 (LOC.st (Nat.le_of_ble_eq_true rfl) rfl) rfl) rfl (fun _ r9 => tape_fail_ok (Z := Z) (d := e9) (by omega)  r9) hf (fun M_18 he_17 hf => ?_)
          refine ex_goto (t := 72) (dg dc28 32 rfl) rfl rfl ?_
          refine ex_pu (ls' := [vR 82, vI v1, vI v2]) (st' := [vR 82]) (dg dc28 36 rfl) rfl rfl ?_
          refine ex_getF (dg dc28 37 rfl) rfl (LOC.st (Nat.le_of_ble_eq_true rfl) rfl) rfl ?_
          refine ex_pu (ls' := [vR 82, vI v1, vI v2]) (st' := [vI 59, vR 1]) (dg dc28 38 rfl) rfl rfl ?_
          refine ex_cI (vs := [vR 1, vI 59]) (st' := []) (F := (tape_tookMark 59 M_18)) (Or.inr (Or.inl ⟨rfl, (dg dc28 39 rfl)⟩)) rfl rfl (rk1 (LOC.st (Nat.le_of_ble_eq_true rfl) rfl) rfl) rfl (fun _ r9 => tape_tookMark_ok (Z := Z) (d := e9) (by omega)  r9) hf (fun z_22 M_21 he_20 hf => ?_)
          refine ex_pu (ls' := [vR 82, vI z_22, vI v2]) (st' := []) (dg dc28 40 rfl) rfl rfl ?_
          refine ex_pu (ls' := [vR 82, vI z_22, vI (v2 + 1)]) (st' := []) (dg dc28 41 rfl) rfl rfl ?_
          refine ex_goto (t := 41) (dg dc28 42 rfl) rfl rfl ?_
          exact ih z_22 (v2 + 1) M_21 hf
def lawr_readText_J38   (s0 : Int) (M : MM) : OR :=
  (lawr_readText_L41  (fun M_23 => (bI (tape_endText  M_23) fun z_28 M_27 => (bif zo z_28 then some (rI z_28, M_27) else none))) FU s0 0 M)
set_option maxRecDepth 4000 in
theorem lawr_readText_J38_ok {Z : Nat × (Nat → Int)} {d : Nat} (hd : 48 ≤ d)   {res : AR × MM}  : ∀ (s0 : Int) (M : MM) (j1 j2 : AV), lawr_readText_J38   s0 M = some res → EX Z d 28 38 [vR 82, j1, j2] [vI s0] M res := by
  obtain ⟨e9, rfl⟩ : ∃ e9, d = e9 + 1 := ⟨d - 1, by omega⟩
  intro s0 M j1 j2 hf
  unfold lawr_readText_J38 at hf
  refine ex_pu (ls' := [vR 82, vI s0, j2]) (st' := []) (dg dc28 18 rfl) rfl rfl ?_
  refine ex_pu (ls' := [vR 82, vI s0, j2]) (st' := [vI 0]) (dg dc28 19 rfl) rfl rfl ?_
  refine ex_pu (ls' := [vR 82, vI s0, vI 0]) (st' := []) (dg dc28 20 rfl) rfl rfl ?_
  refine lawr_readText_L41_ok hd  ?_ FU s0 0 M hf
  · intro M_23 j1_24 j2_25 hf
    refine ex_pu (ls' := [vR 82, j1_24, j2_25]) (st' := [vR 82]) (dg dc28 43 rfl) rfl rfl ?_
    refine ex_getF (dg dc28 44 rfl) rfl (LOC.st (Nat.le_of_ble_eq_true rfl) rfl) rfl ?_
    refine ex_cI (vs := [vR 1]) (st' := []) (F := (tape_endText  M_23)) (Or.inr (Or.inl ⟨rfl, (dg dc28 45 rfl)⟩)) rfl rfl (rk1 (LOC.st (Nat.le_of_ble_eq_true rfl) rfl) rfl) rfl (fun _ r9 => tape_endText_ok (Z := Z) (d := e9) (by omega)  r9) hf (fun z_28 M_27 he_26 hf => ?_)
    exact ex_irb (dg dc28 46 rfl) rfl hf
def lawr_readText  (M : MM) : OR :=
  (bV (tape_startText  M) fun M_2 => (sM (mU M_2 43 0 0) fun M_4 => (sM (mU M_4 43 4 0) fun M_6 => (bI (tape_isAtEnd  M_6) fun z_10 M_9 => (bif cmpB .ne z_10 0 then (lawr_readText_J38   0 M_9) else (lawr_readText_J38   1 M_9))))))
set_option maxRecDepth 4000 in
theorem lawr_readText_ok {Z : Nat × (Nat → Int)} {d : Nat} (hd : 48 ≤ d) {M : MM}  {res : AR × MM} (hf : lawr_readText  M = some res) : EX Z d 28 0 (ent 28 [vR 82]) [] M res := by
  obtain ⟨e9, rfl⟩ : ∃ e9, d = e9 + 1 := ⟨d - 1, by omega⟩
  unfold lawr_readText at hf
  show EX Z _ 28 0 [vR 82, vU, vU] [] M res
  refine ex_pu (ls' := [vR 82, vU, vU]) (st' := [vR 82]) (dg dc28 0 rfl) rfl rfl ?_
  refine ex_getF (dg dc28 1 rfl) rfl (LOC.st (Nat.le_of_ble_eq_true rfl) rfl) rfl ?_
  refine ex_cV (vs := [vR 1]) (st' := []) (F := (tape_startText  M)) (Or.inr (Or.inl ⟨rfl, (dg dc28 2 rfl)⟩)) rfl rfl (rk1 (LOC.st (Nat.le_of_ble_eq_true rfl) rfl) rfl) rfl (fun _ r9 => tape_startText_ok (Z := Z) (d := e9) (by omega)  r9) hf (fun M_2 he_1 hf => ?_)
  refine ex_pu (ls' := [vR 82, vU, vU]) (st' := [vR 82]) (dg dc28 3 rfl) rfl rfl ?_
  refine ex_getF (dg dc28 4 rfl) rfl (LOC.st (Nat.le_of_ble_eq_true rfl) rfl) rfl ?_
  refine ex_pu (ls' := [vR 82, vU, vU]) (st' := [vI 0, vR 43]) (dg dc28 5 rfl) rfl rfl ?_
  refine ex_putI (dg dc28 6 rfl) rfl (LOC.st (Nat.le_of_ble_eq_true rfl) rfl) rfl rfl rfl ?_
  refine ex_gen hf (fun M_4 hM_5 hf => ?_)
  refine ex_pu (ls' := [vR 82, vU, vU]) (st' := [vR 82]) (dg dc28 7 rfl) rfl rfl ?_
  refine ex_getF (dg dc28 8 rfl) rfl (LOC.st (Nat.le_of_ble_eq_true rfl) rfl) rfl ?_
  refine ex_pu (ls' := [vR 82, vU, vU]) (st' := [vI 0, vR 43]) (dg dc28 9 rfl) rfl rfl ?_
  refine ex_putI (dg dc28 10 rfl) rfl (LOC.st (Nat.le_of_ble_eq_true rfl) rfl) rfl rfl rfl ?_
  refine ex_gen hf (fun M_6 hM_7 hf => ?_)
  refine ex_pu (ls' := [vR 82, vU, vU]) (st' := [vR 82]) (dg dc28 11 rfl) rfl rfl ?_
  refine ex_getF (dg dc28 12 rfl) rfl (LOC.st (Nat.le_of_ble_eq_true rfl) rfl) rfl ?_
  refine ex_cI (vs := [vR 1]) (st' := []) (F := (tape_isAtEnd  M_6)) (Or.inr (Or.inl ⟨rfl, (dg dc28 13 rfl)⟩)) rfl rfl (rk1 (LOC.st (Nat.le_of_ble_eq_true rfl) rfl) rfl) rfl (fun _ r9 => tape_isAtEnd_ok (Z := Z) (d := e9) (by omega)  r9) hf (fun z_10 M_9 he_8 hf => ?_)
  refine ex_if (t := 37) (dg dc28 14 rfl) rfl hf (fun _ hf => ?_) (fun _ hf => ?_)
  · refine ex_pu (ls' := [vR 82, vU, vU]) (st' := [vI 0]) (dg dc28 17 rfl) rfl rfl ?_
    exact lawr_readText_J38_ok hd   0 M_9 _ _ hf
  · refine ex_pu (ls' := [vR 82, vU, vU]) (st' := [vI 1]) (dg dc28 15 rfl) rfl rfl ?_
    refine ex_goto (t := 38) (dg dc28 16 rfl) rfl rfl ?_
    exact lawr_readText_J38_ok hd   1 M_9 _ _ hf
-- GlassHill.law
def il113 : List (Nat × Instr × Nat) := [(0, .aload_n 0, 1), (1, .getfield 73, 3), (4, .invokevirtual 154, 3), (7, .ifCond .ne 13, 3), (10, .new 136, 3), (13, .dup, 1), (14, .ldc 138, 2), (16, .invokespecial 140, 3), (19, .athrow, 1), (20, .aload_n 0, 1), (21, .getfield 26, 3), (24, .aload_n 0, 1), (25, .getfield 40, 3), (28, .invokevirtual 155, 3), (31, .aload_n 0, 1), (32, .invokevirtual 151, 3), (35, .aload_n 0, 1), (36, .getfield 26, 3), (39, .getfield 158, 3), (42, .ireturn, 1)]
theorem dc113 : dcs (mC 113) il113 := dc_of (by decide +kernel)
def gh_law  (M : MM) : OR :=
  (bI (lawr_readText  M) fun z_3 M_2 => (bif cmpB .ne z_3 0 then (bV (law_copyFrom 17 43 M_2) fun M_5 => (bV (gh_forgetActs  M_5) fun M_8 => some (rI (M_8 17 0), M_8))) else thx 13 M_2))
set_option maxRecDepth 4000 in
theorem gh_law_ok {Z : Nat × (Nat → Int)} {d : Nat} (hd : 49 ≤ d) {M : MM}  {res : AR × MM} (hf : gh_law  M = some res) : EX Z d 113 0 (ent 113 [vR 0]) [] M res := by
  obtain ⟨e9, rfl⟩ : ∃ e9, d = e9 + 1 := ⟨d - 1, by omega⟩
  unfold gh_law at hf
  show EX Z _ 113 0 [vR 0] [] M res
  refine ex_pu (ls' := [vR 0]) (st' := [vR 0]) (dg dc113 0 rfl) rfl rfl ?_
  refine ex_getF (dg dc113 1 rfl) rfl (LOC.st (Nat.le_of_ble_eq_true rfl) rfl) rfl ?_
  refine ex_cI (vs := [vR 82]) (st' := []) (F := (lawr_readText  M)) (Or.inr (Or.inl ⟨rfl, (dg dc113 2 rfl)⟩)) rfl rfl (rk1 (LOC.st (Nat.le_of_ble_eq_true rfl) rfl) rfl) rfl (fun _ r9 => lawr_readText_ok (Z := Z) (d := e9) (by omega)  r9) hf (fun z_3 M_2 he_1 hf => ?_)
  refine ex_if (t := 20) (dg dc113 3 rfl) rfl hf (fun _ hf => ?_) (fun _ hf => ?_)
  · refine ex_pu (ls' := [vR 0]) (st' := [vR 0]) (dg dc113 9 rfl) rfl rfl ?_
    refine ex_getF (dg dc113 10 rfl) rfl (LOC.st (Nat.le_of_ble_eq_true rfl) rfl) rfl ?_
    refine ex_pu (ls' := [vR 0]) (st' := [vR 0, vR 17]) (dg dc113 11 rfl) rfl rfl ?_
    refine ex_getF (dg dc113 12 rfl) rfl (LOC.st (Nat.le_of_ble_eq_true rfl) rfl) rfl ?_
    refine ex_cV (vs := [vR 17, vR 43]) (st' := []) (F := (law_copyFrom 17 43 M_2)) (Or.inr (Or.inl ⟨rfl, (dg dc113 13 rfl)⟩)) rfl rfl (rk1 (LOC.st (Nat.le_of_ble_eq_true rfl) rfl) rfl) rfl (fun _ r9 => law_copyFrom_ok (Z := Z) (d := e9) (by omega) isLaw17 isLaw43  r9) hf (fun M_5 he_4 hf => ?_)
    refine ex_pu (ls' := [vR 0]) (st' := [vR 0]) (dg dc113 14 rfl) rfl rfl ?_
    refine ex_cV (vs := [vR 0]) (st' := []) (F := (gh_forgetActs  M_5)) (Or.inr (Or.inl ⟨rfl, (dg dc113 15 rfl)⟩)) rfl rfl (rk1 (LOC.st (Nat.le_of_ble_eq_true rfl) rfl) rfl) rfl (fun _ r9 => gh_forgetActs_ok (Z := Z) (d := e9) (by omega)  r9) hf (fun M_8 he_7 hf => ?_)
    refine ex_pu (ls' := [vR 0]) (st' := [vR 0]) (dg dc113 16 rfl) rfl rfl ?_
    refine ex_getF (dg dc113 17 rfl) rfl (LOC.st (Nat.le_of_ble_eq_true rfl) rfl) rfl ?_
    refine ex_getI (dg dc113 18 rfl) rfl (LOC.st (Nat.le_of_ble_eq_true rfl) rfl) rfl ?_
    exact ex_ire (dg dc113 19 rfl) rfl hf
  · exact ex_thr (ci := 13) (is := 138) (ic := 140) (ln := 9) (dg dc113 4 rfl) rfl (exN_of rfl (dg dc113 5 rfl) (dg dc113 6 rfl) (dg dc113 7 rfl) rfl rfl rfl) (dg dc113 8 rfl) rfl ⟨by decide, by decide⟩ hf
-- GlassHillLaw.law
def il304 : List (Nat × Instr × Nat) := [(0, .aload_n 1, 1), (1, .iconst 0, 1), (2, .aload_n 0, 1), (3, .invokevirtual 17, 3), (6, .i2l, 1), (7, .lastore, 1), (8, .goto 6, 3), (11, .astore_n 2, 1), (12, .iconst 1, 1), (13, .ireturn, 1), (14, .iconst 0, 1), (15, .ireturn, 1)]
theorem dc304 : dcs (mC 304) il304 := dc_of (by decide +kernel)
def drv_law  (M : MM) : OR :=
  (bH (gh_law  M) (fun z_3 M_2 => (bif inB 0 1 then (sM (mU M_2 181 0 (w32 z_3)) fun M_4 => some (rI 0, M_4)) else none)) fun c_6 M_2 => (bif Nat.beq c_6 13 then some (rI 1, M_2) else none))
set_option maxRecDepth 4000 in
theorem drv_law_ok {Z : Nat × (Nat → Int)} {d : Nat} (hd : 50 ≤ d) {M : MM}  {res : AR × MM} (hf : drv_law  M = some res) : EX Z d 304 0 (ent 304 [vR 0, vR 181]) [] M res := by
  obtain ⟨e9, rfl⟩ : ∃ e9, d = e9 + 1 := ⟨d - 1, by omega⟩
  unfold drv_law at hf
  show EX Z _ 304 0 [vR 0, vR 181, vU] [] M res
  refine ex_pu (ls' := [vR 0, vR 181, vU]) (st' := [vR 181]) (dg dc304 0 rfl) rfl rfl ?_
  refine ex_pu (ls' := [vR 0, vR 181, vU]) (st' := [vI 0, vR 181]) (dg dc304 1 rfl) rfl rfl ?_
  refine ex_pu (ls' := [vR 0, vR 181, vU]) (st' := [vR 0, vI 0, vR 181]) (dg dc304 2 rfl) rfl rfl ?_
  refine ex_cH (vs := [vR 0]) (st' := [vI 0, vR 181]) (F := (gh_law  M)) (Or.inr (Or.inl ⟨rfl, (dg dc304 3 rfl)⟩)) rfl rfl (rk1 (LOC.st (Nat.le_of_ble_eq_true rfl) rfl) rfl) (fun _ r9 => gh_law_ok (Z := Z) (d := e9) (by omega)  r9) hf (fun z_3 M_2 he_1 hf => ?_) (fun c_6 M_2 he_1 hf => ?_)
  · refine ex_pu (ls' := [vR 0, vR 181, vU]) (st' := [vJ (w32 z_3), vI 0, vR 181]) (dg dc304 4 rfl) rfl rfl ?_
    refine ex_last (dg dc304 5 rfl) (LOC.st (Nat.le_of_ble_eq_true rfl) rfl) rfl rfl hf (fun _ hf => ?_)
    refine ex_gen hf (fun M_4 hM_5 hf => ?_)
    refine ex_goto (t := 14) (dg dc304 6 rfl) rfl rfl ?_
    refine ex_pu (ls' := [vR 0, vR 181, vU]) (st' := [vI 0]) (dg dc304 10 rfl) rfl rfl ?_
    exact ex_ire (dg dc304 11 rfl) rfl hf
  · refine ex_bif hf (fun hb hf => ?_) (fun _ hf => ?_)
    · obtain rfl := bq hb
      refine ex_hnd (vs := [vR 0]) (st' := [vI 0, vR 181]) (ci := 13) (g := 11) (k0 := 2) (g2 := 12) (Or.inr (Or.inl ⟨rfl, (dg dc304 3 rfl)⟩)) rfl rfl (fun _ hR => RK.calO hR rfl (rk1 (LOC.st (Nat.le_of_ble_eq_true rfl) rfl) rfl)) ⟨by decide, by decide⟩ (by decide +kernel) (Or.inl ⟨2, rfl, (dg dc304 7 rfl), rfl⟩) (blt_ok rfl) (gh_law_ok (Z := Z) (d := e9) (by omega)  he_1) ?_
      show EX Z _ 304 12 [vR 0, vR 181, vU] [] M_2 res
      refine ex_pu (ls' := [vR 0, vR 181, vU]) (st' := [vI 1]) (dg dc304 8 rfl) rfl rfl ?_
      exact ex_ire (dg dc304 9 rfl) rfl hf
    · cases hf
