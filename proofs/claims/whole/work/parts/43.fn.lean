/-! ===== METHODS 3 ===== -/
-- GlassHillModel.needed
def il273 : List (Nat × Instr × Nat) := [(0, .aload_n 0, 1), (1, .iconst 0, 1), (2, .putfield 3, 3), (5, .iconst 0, 1), (6, .istore_n 1, 1), (7, .iconst 0, 1), (8, .istore_n 2, 1), (9, .iload_n 2, 1), (10, .aload_n 0, 1), (11, .invokevirtual 76, 3), (14, .if_icmp .ge 96, 3), (17, .aload_n 0, 1), (18, .iload_n 2, 1), (19, .invokevirtual 159, 3), (22, .ifCond .eq 17, 3), (25, .aload_n 0, 1), (26, .iload_n 2, 1), (27, .bipush 7, 2), (29, .invokevirtual 72, 3), (32, .ifCond .ne 7, 3), (35, .iconst 1, 1), (36, .goto 4, 3), (39, .iconst 0, 1), (40, .istore_n 3, 1), (41, .iconst 0, 1), (42, .istore 4, 2), (44, .iload 4, 2), (46, .aload_n 0, 1), (47, .invokevirtual 84, 3), (50, .if_icmp .ge 40, 3), (53, .iload_n 3, 1), (54, .ifCond .eq 28, 3), (57, .aload_n 0, 1), (58, .iload 4, 2), (60, .iconst 2, 1), (61, .invokevirtual 290, 3), (64, .iconst 3, 1), (65, .if_icmp .eq 13, 3), (68, .aload_n 0, 1), (69, .iload 4, 2), (71, .iload_n 2, 1), (72, .invokevirtual 387, 3), (75, .ifCond .ne 7, 3), (78, .iconst 1, 1), (79, .goto 4, 3), (82, .iconst 0, 1), (83, .istore_n 3, 1), (84, .iinc 4 1, 3), (87, .goto (-43), 3), (90, .iload_n 1, 1), (91, .iload_n 3, 1), (92, .ifCond .eq 9, 3), (95, .iconst 1, 1), (96, .iload_n 2, 1), (97, .ishl, 1), (98, .goto 4, 3), (101, .iconst 0, 1), (102, .ior, 1), (103, .istore_n 1, 1), (104, .iinc 2 1, 3), (107, .goto (-98), 3), (110, .iconst 0, 1), (111, .istore_n 2, 1), (112, .iload_n 2, 1), (113, .aload_n 0, 1), (114, .invokevirtual 90, 3), (117, .if_icmp .ge 90, 3), (120, .aload_n 0, 1), (121, .iload_n 2, 1), (122, .iconst 5, 1), (123, .invokevirtual 287, 3), (126, .ifCond .ge 7, 3), (129, .iconst 1, 1), (130, .goto 4, 3), (133, .iconst 0, 1), (134, .istore_n 3, 1), (135, .iconst 0, 1), (136, .istore 4, 2), (138, .iload 4, 2), (140, .aload_n 0, 1), (141, .invokevirtual 84, 3), (144, .if_icmp .ge 40, 3), (147, .iload_n 3, 1), (148, .ifCond .eq 28, 3), (151, .aload_n 0, 1), (152, .iload 4, 2), (154, .iconst 2, 1), (155, .invokevirtual 290, 3), (158, .iconst 3, 1), (159, .if_icmp .eq 13, 3), (162, .aload_n 0, 1), (163, .iload 4, 2), (165, .iload_n 2, 1), (166, .invokevirtual 390, 3), (169, .ifCond .ne 7, 3), (172, .iconst 1, 1), (173, .goto 4, 3), (176, .iconst 0, 1), (177, .istore_n 3, 1), (178, .iinc 4 1, 3), (181, .goto (-43), 3), (184, .iload_n 1, 1), (185, .iload_n 3, 1), (186, .ifCond .eq 12, 3), (189, .iconst 1, 1), (190, .bipush 10, 2), (192, .iload_n 2, 1), (193, .iadd, 1), (194, .ishl, 1), (195, .goto 4, 3), (198, .iconst 0, 1), (199, .ior, 1), (200, .istore_n 1, 1), (201, .iinc 2 1, 3), (204, .goto (-92), 3), (207, .iload_n 1, 1), (208, .ireturn, 1)]
theorem dc273 : dcs (mC 273) il273 := dc_of (by decide +kernel)
def mo_needed_L44  (v1 v2 : Int) (K1 : Int → MM → OR) : Nat → Int → Int → MM → OR
  | 0, _, _, _ => none
  | n + 1, v3, v4, M => (bI (mo_things  M) fun z_11 M_10 => (bif cmpB .ge v4 z_11 then (K1 v3 M_10) else (bif cmpB .eq v3 0 then (mo_needed_L44 v1 v2 K1 n 0 (v4 + 1) M_10) else (bI (mo_ofThing v4 2 M_10) fun z_14 M_13 => (bif cmpB .eq z_14 3 then (mo_needed_L44 v1 v2 K1 n 1 (v4 + 1) M_13) else (bI (mo_fitsKeeper v4 v2 M_13) fun z_17 M_16 => (bif cmpB .ne z_17 0 then (mo_needed_L44 v1 v2 K1 n 0 (v4 + 1) M_16) else (mo_needed_L44 v1 v2 K1 n 1 (v4 + 1) M_16))))))))
set_option maxRecDepth 4000 in
theorem mo_needed_L44_ok {Z : Nat × (Nat → Int)} {d : Nat} (hd : 2 ≤ d)  {v1 v2 : Int} {K1 : Int → MM → OR} {res : AR × MM} (k1 : ∀ (x3 : Int) (M : MM) (j4 : AV), K1 x3 M = some res → EX Z d 273 90 [vR 165, vI v1, vI v2, vI x3, j4] [] M res) : ∀ (n : Nat) (v3 v4 : Int) (M : MM), mo_needed_L44 v1 v2 K1 n v3 v4 M = some res → EX Z d 273 44 [vR 165, vI v1, vI v2, vI v3, vI v4] [] M res := by
  obtain ⟨e9, rfl⟩ : ∃ e9, d = e9 + 1 := ⟨d - 1, by omega⟩
  intro n
  induction n with
  | zero =>
    intro v3 v4 M hf
    unfold mo_needed_L44 at hf
    cases hf
  | succ n ih =>
    intro v3 v4 M hf
    unfold mo_needed_L44 at hf
    refine ex_pu (ls' := [vR 165, vI v1, vI v2, vI v3, vI v4]) (st' := [vI v4]) (dg dc273 26 rfl) rfl rfl ?_
    refine ex_pu (ls' := [vR 165, vI v1, vI v2, vI v3, vI v4]) (st' := [vR 165, vI v4]) (dg dc273 27 rfl) rfl rfl ?_
    refine ex_cI (vs := [vR 165]) (st' := [vI v4]) (F := (mo_things  M)) (Or.inr (Or.inl ⟨rfl, (dg dc273 28 rfl)⟩)) rfl rfl (rk1 (LOC.st (Nat.le_of_ble_eq_true rfl) rfl) rfl) rfl (fun _ r9 => mo_things_ok (Z := Z) (d := e9) (by omega)  r9) hf (fun z_11 M_10 he_9 hf => ?_)
    refine ex_icmp (t := 90) (dg dc273 29 rfl) rfl hf (fun _ hf => ?_) (fun _ hf => ?_)
    · exact k1 v3 M_10 _ hf
    · refine ex_pu (ls' := [vR 165, vI v1, vI v2, vI v3, vI v4]) (st' := [vI v3]) (dg dc273 30 rfl) rfl rfl ?_
      refine ex_if (t := 82) (dg dc273 31 rfl) rfl hf (fun _ hf => ?_) (fun _ hf => ?_)
      · refine ex_pu (ls' := [vR 165, vI v1, vI v2, vI v3, vI v4]) (st' := [vI 0]) (dg dc273 45 rfl) rfl rfl ?_
        refine ex_pu (ls' := [vR 165, vI v1, vI v2, vI 0, vI v4]) (st' := []) (dg dc273 46 rfl) rfl rfl ?_
        refine ex_pu (ls' := [vR 165, vI v1, vI v2, vI 0, vI (v4 + 1)]) (st' := []) (dg dc273 47 rfl) rfl rfl ?_
        refine ex_goto (t := 44) (dg dc273 48 rfl) rfl rfl ?_
        exact ih 0 (v4 + 1) M_10 hf
      · refine ex_pu (ls' := [vR 165, vI v1, vI v2, vI v3, vI v4]) (st' := [vR 165]) (dg dc273 32 rfl) rfl rfl ?_
        refine ex_pu (ls' := [vR 165, vI v1, vI v2, vI v3, vI v4]) (st' := [vI v4, vR 165]) (dg dc273 33 rfl) rfl rfl ?_
        refine ex_pu (ls' := [vR 165, vI v1, vI v2, vI v3, vI v4]) (st' := [vI 2, vI v4, vR 165]) (dg dc273 34 rfl) rfl rfl ?_
        refine ex_cI (vs := [vR 165, vI v4, vI 2]) (st' := []) (F := (mo_ofThing v4 2 M_10)) (Or.inr (Or.inl ⟨rfl, (dg dc273 35 rfl)⟩)) rfl rfl (rk1 (LOC.st (Nat.le_of_ble_eq_true rfl) rfl) rfl) rfl (fun _ r9 => mo_ofThing_ok (Z := Z) (d := e9) (by omega)  r9) hf (fun z_14 M_13 he_12 hf => ?_)
        refine ex_pu (ls' := [vR 165, vI v1, vI v2, vI v3, vI v4]) (st' := [vI 3, vI z_14]) (dg dc273 36 rfl) rfl rfl ?_
        refine ex_icmp (t := 78) (dg dc273 37 rfl) rfl hf (fun _ hf => ?_) (fun _ hf => ?_)
        · refine ex_pu (ls' := [vR 165, vI v1, vI v2, vI v3, vI v4]) (st' := [vI 1]) (dg dc273 43 rfl) rfl rfl ?_
          refine ex_goto (t := 83) (dg dc273 44 rfl) rfl rfl ?_
          refine ex_pu (ls' := [vR 165, vI v1, vI v2, vI 1, vI v4]) (st' := []) (dg dc273 46 rfl) rfl rfl ?_
          refine ex_pu (ls' := [vR 165, vI v1, vI v2, vI 1, vI (v4 + 1)]) (st' := []) (dg dc273 47 rfl) rfl rfl ?_
          refine ex_goto (t := 44) (dg dc273 48 rfl) rfl rfl ?_
          exact ih 1 (v4 + 1) M_13 hf
        · refine ex_pu (ls' := [vR 165, vI v1, vI v2, vI v3, vI v4]) (st' := [vR 165]) (dg dc273 38 rfl) rfl rfl ?_
          refine ex_pu (ls' := [vR 165, vI v1, vI v2, vI v3, vI v4]) (st' := [vI v4, vR 165]) (dg dc273 39 rfl) rfl rfl ?_
          refine ex_pu (ls' := [vR 165, vI v1, vI v2, vI v3, vI v4]) (st' := [vI v2, vI v4, vR 165]) (dg dc273 40 rfl) rfl rfl ?_
          refine ex_cI (vs := [vR 165, vI v4, vI v2]) (st' := []) (F := (mo_fitsKeeper v4 v2 M_13)) (Or.inr (Or.inl ⟨rfl, (dg dc273 41 rfl)⟩)) rfl rfl (rk1 (LOC.st (Nat.le_of_ble_eq_true rfl) rfl) rfl) rfl (fun _ r9 => mo_fitsKeeper_ok (Z := Z) (d := e9) (by omega)  r9) hf (fun z_17 M_16 he_15 hf => ?_)
          refine ex_if (t := 82) (dg dc273 42 rfl) rfl hf (fun _ hf => ?_) (fun _ hf => ?_)
          · refine ex_pu (ls' := [vR 165, vI v1, vI v2, vI v3, vI v4]) (st' := [vI 0]) (dg dc273 45 rfl) rfl rfl ?_
            refine ex_pu (ls' := [vR 165, vI v1, vI v2, vI 0, vI v4]) (st' := []) (dg dc273 46 rfl) rfl rfl ?_
            refine ex_pu (ls' := [vR 165, vI v1, vI v2, vI 0, vI (v4 + 1)]) (st' := []) (dg dc273 47 rfl) rfl rfl ?_
            refine ex_goto (t := 44) (dg dc273 48 rfl) rfl rfl ?_
            exact ih 0 (v4 + 1) M_16 hf
          · refine ex_pu (ls' := [vR 165, vI v1, vI v2, vI v3, vI v4]) (st' := [vI 1]) (dg dc273 43 rfl) rfl rfl ?_
            refine ex_goto (t := 83) (dg dc273 44 rfl) rfl rfl ?_
            refine ex_pu (ls' := [vR 165, vI v1, vI v2, vI 1, vI v4]) (st' := []) (dg dc273 46 rfl) rfl rfl ?_
            refine ex_pu (ls' := [vR 165, vI v1, vI v2, vI 1, vI (v4 + 1)]) (st' := []) (dg dc273 47 rfl) rfl rfl ?_
            refine ex_goto (t := 44) (dg dc273 48 rfl) rfl rfl ?_
            exact ih 1 (v4 + 1) M_16 hf
def mo_needed_J40  (Kb : Int → Int → MM → OR) (K1 : Int → MM → OR) (v1 v2 s0 : Int) (M : MM) : OR :=
  (mo_needed_L44 v1 v2 (fun v3_18 M_19 => (bif cmpB .eq v3_18 0 then (Kb (iOr v1 0) (v2 + 1) M_19) else (Kb (iOr v1 (iShl 1 v2)) (v2 + 1) M_19))) FU s0 0 M)
set_option maxRecDepth 4000 in
theorem mo_needed_J40_ok {Z : Nat × (Nat → Int)} {d : Nat} (hd : 2 ≤ d)  {Kb : Int → Int → MM → OR} {K1 : Int → MM → OR} {res : AR × MM} (kb : ∀ (x1 x2 : Int) (M : MM) (j3 j4 : AV), Kb x1 x2 M = some res → EX Z d 273 9 [vR 165, vI x1, vI x2, j3, j4] [] M res) (k1 : ∀ (x1 : Int) (M : MM) (j2 j3 j4 : AV), K1 x1 M = some res → EX Z d 273 110 [vR 165, vI x1, j2, j3, j4] [] M res) : ∀ (v1 v2 s0 : Int) (M : MM) (j3 j4 : AV), mo_needed_J40  Kb K1 v1 v2 s0 M = some res → EX Z d 273 40 [vR 165, vI v1, vI v2, j3, j4] [vI s0] M res := by
  obtain ⟨e9, rfl⟩ : ∃ e9, d = e9 + 1 := ⟨d - 1, by omega⟩
  intro v1 v2 s0 M j3 j4 hf
  unfold mo_needed_J40 at hf
  refine ex_pu (ls' := [vR 165, vI v1, vI v2, vI s0, j4]) (st' := []) (dg dc273 23 rfl) rfl rfl ?_
  refine ex_pu (ls' := [vR 165, vI v1, vI v2, vI s0, j4]) (st' := [vI 0]) (dg dc273 24 rfl) rfl rfl ?_
  refine ex_pu (ls' := [vR 165, vI v1, vI v2, vI s0, vI 0]) (st' := []) (dg dc273 25 rfl) rfl rfl ?_
  refine mo_needed_L44_ok hd  ?_ FU s0 0 M hf
  · intro v3_18 M_19 j4_20 hf
    refine ex_pu (ls' := [vR 165, vI v1, vI v2, vI v3_18, j4_20]) (st' := [vI v1]) (dg dc273 49 rfl) rfl rfl ?_
    refine ex_pu (ls' := [vR 165, vI v1, vI v2, vI v3_18, j4_20]) (st' := [vI v3_18, vI v1]) (dg dc273 50 rfl) rfl rfl ?_
    refine ex_if (t := 101) (dg dc273 51 rfl) rfl hf (fun _ hf => ?_) (fun _ hf => ?_)
    · refine ex_pu (ls' := [vR 165, vI v1, vI v2, vI v3_18, j4_20]) (st' := [vI 0, vI v1]) (dg dc273 56 rfl) rfl rfl ?_
      refine ex_pu (ls' := [vR 165, vI v1, vI v2, vI v3_18, j4_20]) (st' := [vI (iOr v1 0)]) (dg dc273 57 rfl) rfl rfl ?_
      refine ex_pu (ls' := [vR 165, vI (iOr v1 0), vI v2, vI v3_18, j4_20]) (st' := []) (dg dc273 58 rfl) rfl rfl ?_
      refine ex_pu (ls' := [vR 165, vI (iOr v1 0), vI (v2 + 1), vI v3_18, j4_20]) (st' := []) (dg dc273 59 rfl) rfl rfl ?_
      refine ex_goto (t := 9) (dg dc273 60 rfl) rfl rfl ?_
      exact kb (iOr v1 0) (v2 + 1) M_19 _ _ hf
    · refine ex_pu (ls' := [vR 165, vI v1, vI v2, vI v3_18, j4_20]) (st' := [vI 1, vI v1]) (dg dc273 52 rfl) rfl rfl ?_
      refine ex_pu (ls' := [vR 165, vI v1, vI v2, vI v3_18, j4_20]) (st' := [vI v2, vI 1, vI v1]) (dg dc273 53 rfl) rfl rfl ?_
      refine ex_pu (ls' := [vR 165, vI v1, vI v2, vI v3_18, j4_20]) (st' := [vI (iShl 1 v2), vI v1]) (dg dc273 54 rfl) rfl rfl ?_
      refine ex_goto (t := 102) (dg dc273 55 rfl) rfl rfl ?_
      refine ex_pu (ls' := [vR 165, vI v1, vI v2, vI v3_18, j4_20]) (st' := [vI (iOr v1 (iShl 1 v2))]) (dg dc273 57 rfl) rfl rfl ?_
      refine ex_pu (ls' := [vR 165, vI (iOr v1 (iShl 1 v2)), vI v2, vI v3_18, j4_20]) (st' := []) (dg dc273 58 rfl) rfl rfl ?_
      refine ex_pu (ls' := [vR 165, vI (iOr v1 (iShl 1 v2)), vI (v2 + 1), vI v3_18, j4_20]) (st' := []) (dg dc273 59 rfl) rfl rfl ?_
      refine ex_goto (t := 9) (dg dc273 60 rfl) rfl rfl ?_
      exact kb (iOr v1 (iShl 1 v2)) (v2 + 1) M_19 _ _ hf
def mo_needed_J39  (Kb : Int → Int → MM → OR) (K1 : Int → MM → OR) (v1 v2 : Int) (M : MM) : OR :=
  (mo_needed_J40  Kb K1 v1 v2 0 M)
set_option maxRecDepth 4000 in
theorem mo_needed_J39_ok {Z : Nat × (Nat → Int)} {d : Nat} (hd : 2 ≤ d)  {Kb : Int → Int → MM → OR} {K1 : Int → MM → OR} {res : AR × MM} (kb : ∀ (x1 x2 : Int) (M : MM) (j3 j4 : AV), Kb x1 x2 M = some res → EX Z d 273 9 [vR 165, vI x1, vI x2, j3, j4] [] M res) (k1 : ∀ (x1 : Int) (M : MM) (j2 j3 j4 : AV), K1 x1 M = some res → EX Z d 273 110 [vR 165, vI x1, j2, j3, j4] [] M res) : ∀ (v1 v2 : Int) (M : MM) (j3 j4 : AV), mo_needed_J39  Kb K1 v1 v2 M = some res → EX Z d 273 39 [vR 165, vI v1, vI v2, j3, j4] [] M res := by
  obtain ⟨e9, rfl⟩ : ∃ e9, d = e9 + 1 := ⟨d - 1, by omega⟩
  intro v1 v2 M j3 j4 hf
  unfold mo_needed_J39 at hf
  refine ex_pu (ls' := [vR 165, vI v1, vI v2, j3, j4]) (st' := [vI 0]) (dg dc273 22 rfl) rfl rfl ?_
  exact mo_needed_J40_ok hd  kb k1 v1 v2 0 M _ _ hf
def mo_needed_L9  (K1 : Int → MM → OR) : Nat → Int → Int → MM → OR
  | 0, _, _, _ => none
  | n + 1, v1, v2, M => (bI (mo_places  M) fun z_5 M_4 => (bif cmpB .ge v2 z_5 then (K1 v1 M_4) else (bI (mo_isKeeper v2 M_4) fun z_8 M_7 => (bif cmpB .eq z_8 0 then (mo_needed_J39  (mo_needed_L9  K1 n) K1 v1 v2 M_7) else (bI (mo_of v2 7 M_7) fun z_23 M_22 => (bif cmpB .ne z_23 0 then (mo_needed_J39  (mo_needed_L9  K1 n) K1 v1 v2 M_22) else (mo_needed_J40  (mo_needed_L9  K1 n) K1 v1 v2 1 M_22)))))))
set_option maxRecDepth 4000 in
theorem mo_needed_L9_ok {Z : Nat × (Nat → Int)} {d : Nat} (hd : 2 ≤ d)  {K1 : Int → MM → OR} {res : AR × MM} (k1 : ∀ (x1 : Int) (M : MM) (j2 j3 j4 : AV), K1 x1 M = some res → EX Z d 273 110 [vR 165, vI x1, j2, j3, j4] [] M res) : ∀ (n : Nat) (v1 v2 : Int) (M : MM) (j3 j4 : AV), mo_needed_L9  K1 n v1 v2 M = some res → EX Z d 273 9 [vR 165, vI v1, vI v2, j3, j4] [] M res := by
  obtain ⟨e9, rfl⟩ : ∃ e9, d = e9 + 1 := ⟨d - 1, by omega⟩
  intro n
  induction n with
  | zero =>
    intro v1 v2 M j3 j4 hf
    unfold mo_needed_L9 at hf
    cases hf
  | succ n ih =>
    intro v1 v2 M j3 j4 hf
    unfold mo_needed_L9 at hf
    refine ex_pu (ls' := [vR 165, vI v1, vI v2, j3, j4]) (st' := [vI v2]) (dg dc273 7 rfl) rfl rfl ?_
    refine ex_pu (ls' := [vR 165, vI v1, vI v2, j3, j4]) (st' := [vR 165, vI v2]) (dg dc273 8 rfl) rfl rfl ?_
    refine ex_cI (vs := [vR 165]) (st' := [vI v2]) (F := (mo_places  M)) (Or.inr (Or.inl ⟨rfl, (dg dc273 9 rfl)⟩)) rfl rfl (rk1 (LOC.st (Nat.le_of_ble_eq_true rfl) rfl) rfl) rfl (fun _ r9 => mo_places_ok (Z := Z) (d := e9) (by omega)  r9) hf (fun z_5 M_4 he_3 hf => ?_)
    refine ex_icmp (t := 110) (dg dc273 10 rfl) rfl hf (fun _ hf => ?_) (fun _ hf => ?_)
    · exact k1 v1 M_4 _ _ _ hf
    · refine ex_pu (ls' := [vR 165, vI v1, vI v2, j3, j4]) (st' := [vR 165]) (dg dc273 11 rfl) rfl rfl ?_
      refine ex_pu (ls' := [vR 165, vI v1, vI v2, j3, j4]) (st' := [vI v2, vR 165]) (dg dc273 12 rfl) rfl rfl ?_
      refine ex_cI (vs := [vR 165, vI v2]) (st' := []) (F := (mo_isKeeper v2 M_4)) (Or.inr (Or.inl ⟨rfl, (dg dc273 13 rfl)⟩)) rfl rfl (rk1 (LOC.st (Nat.le_of_ble_eq_true rfl) rfl) rfl) rfl (fun _ r9 => mo_isKeeper_ok (Z := Z) (d := e9) (by omega)  r9) hf (fun z_8 M_7 he_6 hf => ?_)
      refine ex_if (t := 39) (dg dc273 14 rfl) rfl hf (fun _ hf => ?_) (fun _ hf => ?_)
      · exact mo_needed_J39_ok hd  ih k1 v1 v2 M_7 _ _ hf
      · refine ex_pu (ls' := [vR 165, vI v1, vI v2, j3, j4]) (st' := [vR 165]) (dg dc273 15 rfl) rfl rfl ?_
        refine ex_pu (ls' := [vR 165, vI v1, vI v2, j3, j4]) (st' := [vI v2, vR 165]) (dg dc273 16 rfl) rfl rfl ?_
        refine ex_pu (ls' := [vR 165, vI v1, vI v2, j3, j4]) (st' := [vI 7, vI v2, vR 165]) (dg dc273 17 rfl) rfl rfl ?_
        refine ex_cI (vs := [vR 165, vI v2, vI 7]) (st' := []) (F := (mo_of v2 7 M_7)) (Or.inr (Or.inl ⟨rfl, (dg dc273 18 rfl)⟩)) rfl rfl (rk1 (LOC.st (Nat.le_of_ble_eq_true rfl) rfl) rfl) rfl (fun _ r9 => mo_of_ok (Z := Z) (d := e9) (by omega)  r9) hf (fun z_23 M_22 he_21 hf => ?_)
        refine ex_if (t := 39) (dg dc273 19 rfl) rfl hf (fun _ hf => ?_) (fun _ hf => ?_)
        · exact mo_needed_J39_ok hd  ih k1 v1 v2 M_22 _ _ hf
        · refine ex_pu (ls' := [vR 165, vI v1, vI v2, j3, j4]) (st' := [vI 1]) (dg dc273 20 rfl) rfl rfl ?_
          refine ex_goto (t := 40) (dg dc273 21 rfl) rfl rfl ?_
          exact mo_needed_J40_ok hd  ih k1 v1 v2 1 M_22 _ _ hf
def mo_needed_L138  (v1 v2 : Int) (K1 : Int → MM → OR) : Nat → Int → Int → MM → OR
  | 0, _, _, _ => none
  | n + 1, v3, v4, M => (bI (mo_things  M) fun z_37 M_36 => (bif cmpB .ge v4 z_37 then (K1 v3 M_36) else (bif cmpB .eq v3 0 then (mo_needed_L138 v1 v2 K1 n 0 (v4 + 1) M_36) else (bI (mo_ofThing v4 2 M_36) fun z_40 M_39 => (bif cmpB .eq z_40 3 then (mo_needed_L138 v1 v2 K1 n 1 (v4 + 1) M_39) else (bI (mo_fitsBrother v4 v2 M_39) fun z_43 M_42 => (bif cmpB .ne z_43 0 then (mo_needed_L138 v1 v2 K1 n 0 (v4 + 1) M_42) else (mo_needed_L138 v1 v2 K1 n 1 (v4 + 1) M_42))))))))
set_option maxRecDepth 4000 in
theorem mo_needed_L138_ok {Z : Nat × (Nat → Int)} {d : Nat} (hd : 2 ≤ d)  {v1 v2 : Int} {K1 : Int → MM → OR} {res : AR × MM} (k1 : ∀ (x3 : Int) (M : MM) (j4 : AV), K1 x3 M = some res → EX Z d 273 184 [vR 165, vI v1, vI v2, vI x3, j4] [] M res) : ∀ (n : Nat) (v3 v4 : Int) (M : MM), mo_needed_L138 v1 v2 K1 n v3 v4 M = some res → EX Z d 273 138 [vR 165, vI v1, vI v2, vI v3, vI v4] [] M res := by
  obtain ⟨e9, rfl⟩ : ∃ e9, d = e9 + 1 := ⟨d - 1, by omega⟩
  intro n
  induction n with
  | zero =>
    intro v3 v4 M hf
    unfold mo_needed_L138 at hf
    cases hf
  | succ n ih =>
    intro v3 v4 M hf
    unfold mo_needed_L138 at hf
    refine ex_pu (ls' := [vR 165, vI v1, vI v2, vI v3, vI v4]) (st' := [vI v4]) (dg dc273 78 rfl) rfl rfl ?_
    refine ex_pu (ls' := [vR 165, vI v1, vI v2, vI v3, vI v4]) (st' := [vR 165, vI v4]) (dg dc273 79 rfl) rfl rfl ?_
    refine ex_cI (vs := [vR 165]) (st' := [vI v4]) (F := (mo_things  M)) (Or.inr (Or.inl ⟨rfl, (dg dc273 80 rfl)⟩)) rfl rfl (rk1 (LOC.st (Nat.le_of_ble_eq_true rfl) rfl) rfl) rfl (fun _ r9 => mo_things_ok (Z := Z) (d := e9) (by omega)  r9) hf (fun z_37 M_36 he_35 hf => ?_)
    refine ex_icmp (t := 184) (dg dc273 81 rfl) rfl hf (fun _ hf => ?_) (fun _ hf => ?_)
    · exact k1 v3 M_36 _ hf
    · refine ex_pu (ls' := [vR 165, vI v1, vI v2, vI v3, vI v4]) (st' := [vI v3]) (dg dc273 82 rfl) rfl rfl ?_
      refine ex_if (t := 176) (dg dc273 83 rfl) rfl hf (fun _ hf => ?_) (fun _ hf => ?_)
      · refine ex_pu (ls' := [vR 165, vI v1, vI v2, vI v3, vI v4]) (st' := [vI 0]) (dg dc273 97 rfl) rfl rfl ?_
        refine ex_pu (ls' := [vR 165, vI v1, vI v2, vI 0, vI v4]) (st' := []) (dg dc273 98 rfl) rfl rfl ?_
        refine ex_pu (ls' := [vR 165, vI v1, vI v2, vI 0, vI (v4 + 1)]) (st' := []) (dg dc273 99 rfl) rfl rfl ?_
        refine ex_goto (t := 138) (dg dc273 100 rfl) rfl rfl ?_
        exact ih 0 (v4 + 1) M_36 hf
      · refine ex_pu (ls' := [vR 165, vI v1, vI v2, vI v3, vI v4]) (st' := [vR 165]) (dg dc273 84 rfl) rfl rfl ?_
        refine ex_pu (ls' := [vR 165, vI v1, vI v2, vI v3, vI v4]) (st' := [vI v4, vR 165]) (dg dc273 85 rfl) rfl rfl ?_
        refine ex_pu (ls' := [vR 165, vI v1, vI v2, vI v3, vI v4]) (st' := [vI 2, vI v4, vR 165]) (dg dc273 86 rfl) rfl rfl ?_
        refine ex_cI (vs := [vR 165, vI v4, vI 2]) (st' := []) (F := (mo_ofThing v4 2 M_36)) (Or.inr (Or.inl ⟨rfl, (dg dc273 87 rfl)⟩)) rfl rfl (rk1 (LOC.st (Nat.le_of_ble_eq_true rfl) rfl) rfl) rfl (fun _ r9 => mo_ofThing_ok (Z := Z) (d := e9) (by omega)  r9) hf (fun z_40 M_39 he_38 hf => ?_)
        refine ex_pu (ls' := [vR 165, vI v1, vI v2, vI v3, vI v4]) (st' := [vI 3, vI z_40]) (dg dc273 88 rfl) rfl rfl ?_
        refine ex_icmp (t := 172) (dg dc273 89 rfl) rfl hf (fun _ hf => ?_) (fun _ hf => ?_)
        · refine ex_pu (ls' := [vR 165, vI v1, vI v2, vI v3, vI v4]) (st' := [vI 1]) (dg dc273 95 rfl) rfl rfl ?_
          refine ex_goto (t := 177) (dg dc273 96 rfl) rfl rfl ?_
          refine ex_pu (ls' := [vR 165, vI v1, vI v2, vI 1, vI v4]) (st' := []) (dg dc273 98 rfl) rfl rfl ?_
          refine ex_pu (ls' := [vR 165, vI v1, vI v2, vI 1, vI (v4 + 1)]) (st' := []) (dg dc273 99 rfl) rfl rfl ?_
          refine ex_goto (t := 138) (dg dc273 100 rfl) rfl rfl ?_
          exact ih 1 (v4 + 1) M_39 hf
        · refine ex_pu (ls' := [vR 165, vI v1, vI v2, vI v3, vI v4]) (st' := [vR 165]) (dg dc273 90 rfl) rfl rfl ?_
          refine ex_pu (ls' := [vR 165, vI v1, vI v2, vI v3, vI v4]) (st' := [vI v4, vR 165]) (dg dc273 91 rfl) rfl rfl ?_
          refine ex_pu (ls' := [vR 165, vI v1, vI v2, vI v3, vI v4]) (st' := [vI v2, vI v4, vR 165]) (dg dc273 92 rfl) rfl rfl ?_
          refine ex_cI (vs := [vR 165, vI v4, vI v2]) (st' := []) (F := (mo_fitsBrother v4 v2 M_39)) (Or.inr (Or.inl ⟨rfl, (dg dc273 93 rfl)⟩)) rfl rfl (rk1 (LOC.st (Nat.le_of_ble_eq_true rfl) rfl) rfl) rfl (fun _ r9 => mo_fitsBrother_ok (Z := Z) (d := e9) (by omega)  r9) hf (fun z_43 M_42 he_41 hf => ?_)
          refine ex_if (t := 176) (dg dc273 94 rfl) rfl hf (fun _ hf => ?_) (fun _ hf => ?_)
          · refine ex_pu (ls' := [vR 165, vI v1, vI v2, vI v3, vI v4]) (st' := [vI 0]) (dg dc273 97 rfl) rfl rfl ?_
            refine ex_pu (ls' := [vR 165, vI v1, vI v2, vI 0, vI v4]) (st' := []) (dg dc273 98 rfl) rfl rfl ?_
            refine ex_pu (ls' := [vR 165, vI v1, vI v2, vI 0, vI (v4 + 1)]) (st' := []) (dg dc273 99 rfl) rfl rfl ?_
            refine ex_goto (t := 138) (dg dc273 100 rfl) rfl rfl ?_
            exact ih 0 (v4 + 1) M_42 hf
          · refine ex_pu (ls' := [vR 165, vI v1, vI v2, vI v3, vI v4]) (st' := [vI 1]) (dg dc273 95 rfl) rfl rfl ?_
            refine ex_goto (t := 177) (dg dc273 96 rfl) rfl rfl ?_
            refine ex_pu (ls' := [vR 165, vI v1, vI v2, vI 1, vI v4]) (st' := []) (dg dc273 98 rfl) rfl rfl ?_
            refine ex_pu (ls' := [vR 165, vI v1, vI v2, vI 1, vI (v4 + 1)]) (st' := []) (dg dc273 99 rfl) rfl rfl ?_
            refine ex_goto (t := 138) (dg dc273 100 rfl) rfl rfl ?_
            exact ih 1 (v4 + 1) M_42 hf
def mo_needed_J134  (Kb : Int → Int → MM → OR) (K1 : Int → MM → OR) (v1 v2 s0 : Int) (M : MM) : OR :=
  (mo_needed_L138 v1 v2 (fun v3_44 M_45 => (bif cmpB .eq v3_44 0 then (Kb (iOr v1 0) (v2 + 1) M_45) else (Kb (iOr v1 (iShl 1 (10 + v2))) (v2 + 1) M_45))) FU s0 0 M)
set_option maxRecDepth 4000 in
theorem mo_needed_J134_ok {Z : Nat × (Nat → Int)} {d : Nat} (hd : 2 ≤ d)  {Kb : Int → Int → MM → OR} {K1 : Int → MM → OR} {res : AR × MM} (kb : ∀ (x1 x2 : Int) (M : MM) (j3 j4 : AV), Kb x1 x2 M = some res → EX Z d 273 112 [vR 165, vI x1, vI x2, j3, j4] [] M res) (k1 : ∀ (x1 : Int) (M : MM) (j0 j2 j3 j4 : AV), K1 x1 M = some res → EX Z d 273 207 [j0, vI x1, j2, j3, j4] [] M res) : ∀ (v1 v2 s0 : Int) (M : MM) (j3 j4 : AV), mo_needed_J134  Kb K1 v1 v2 s0 M = some res → EX Z d 273 134 [vR 165, vI v1, vI v2, j3, j4] [vI s0] M res := by
  obtain ⟨e9, rfl⟩ : ∃ e9, d = e9 + 1 := ⟨d - 1, by omega⟩
  intro v1 v2 s0 M j3 j4 hf
  unfold mo_needed_J134 at hf
  refine ex_pu (ls' := [vR 165, vI v1, vI v2, vI s0, j4]) (st' := []) (dg dc273 75 rfl) rfl rfl ?_
  refine ex_pu (ls' := [vR 165, vI v1, vI v2, vI s0, j4]) (st' := [vI 0]) (dg dc273 76 rfl) rfl rfl ?_
  refine ex_pu (ls' := [vR 165, vI v1, vI v2, vI s0, vI 0]) (st' := []) (dg dc273 77 rfl) rfl rfl ?_
  refine mo_needed_L138_ok hd  ?_ FU s0 0 M hf
  · intro v3_44 M_45 j4_46 hf
    refine ex_pu (ls' := [vR 165, vI v1, vI v2, vI v3_44, j4_46]) (st' := [vI v1]) (dg dc273 101 rfl) rfl rfl ?_
    refine ex_pu (ls' := [vR 165, vI v1, vI v2, vI v3_44, j4_46]) (st' := [vI v3_44, vI v1]) (dg dc273 102 rfl) rfl rfl ?_
    refine ex_if (t := 198) (dg dc273 103 rfl) rfl hf (fun _ hf => ?_) (fun _ hf => ?_)
    · refine ex_pu (ls' := [vR 165, vI v1, vI v2, vI v3_44, j4_46]) (st' := [vI 0, vI v1]) (dg dc273 110 rfl) rfl rfl ?_
      refine ex_pu (ls' := [vR 165, vI v1, vI v2, vI v3_44, j4_46]) (st' := [vI (iOr v1 0)]) (dg dc273 111 rfl) rfl rfl ?_
      refine ex_pu (ls' := [vR 165, vI (iOr v1 0), vI v2, vI v3_44, j4_46]) (st' := []) (dg dc273 112 rfl) rfl rfl ?_
      refine ex_pu (ls' := [vR 165, vI (iOr v1 0), vI (v2 + 1), vI v3_44, j4_46]) (st' := []) (dg dc273 113 rfl) rfl rfl ?_
      refine ex_goto (t := 112) (dg dc273 114 rfl) rfl rfl ?_
      exact kb (iOr v1 0) (v2 + 1) M_45 _ _ hf
    · refine ex_pu (ls' := [vR 165, vI v1, vI v2, vI v3_44, j4_46]) (st' := [vI 1, vI v1]) (dg dc273 104 rfl) rfl rfl ?_
      refine ex_pu (ls' := [vR 165, vI v1, vI v2, vI v3_44, j4_46]) (st' := [vI 10, vI 1, vI v1]) (dg dc273 105 rfl) rfl rfl ?_
      refine ex_pu (ls' := [vR 165, vI v1, vI v2, vI v3_44, j4_46]) (st' := [vI v2, vI 10, vI 1, vI v1]) (dg dc273 106 rfl) rfl rfl ?_
      refine ex_pu (ls' := [vR 165, vI v1, vI v2, vI v3_44, j4_46]) (st' := [vI (10 + v2), vI 1, vI v1]) (dg dc273 107 rfl) rfl rfl ?_
      refine ex_pu (ls' := [vR 165, vI v1, vI v2, vI v3_44, j4_46]) (st' := [vI (iShl 1 (10 + v2)), vI v1]) (dg dc273 108 rfl) rfl rfl ?_
      refine ex_goto (t := 199) (dg dc273 109 rfl) rfl rfl ?_
      refine ex_pu (ls' := [vR 165, vI v1, vI v2, vI v3_44, j4_46]) (st' := [vI (iOr v1 (iShl 1 (10 + v2)))]) (dg dc273 111 rfl) rfl rfl ?_
      refine ex_pu (ls' := [vR 165, vI (iOr v1 (iShl 1 (10 + v2))), vI v2, vI v3_44, j4_46]) (st' := []) (dg dc273 112 rfl) rfl rfl ?_
      refine ex_pu (ls' := [vR 165, vI (iOr v1 (iShl 1 (10 + v2))), vI (v2 + 1), vI v3_44, j4_46]) (st' := []) (dg dc273 113 rfl) rfl rfl ?_
      refine ex_goto (t := 112) (dg dc273 114 rfl) rfl rfl ?_
      exact kb (iOr v1 (iShl 1 (10 + v2))) (v2 + 1) M_45 _ _ hf
def mo_needed_L112  (K1 : Int → MM → OR) : Nat → Int → Int → MM → OR
  | 0, _, _, _ => none
  | n + 1, v1, v2, M => (bI (mo_brothers  M) fun z_31 M_30 => (bif cmpB .ge v2 z_31 then (K1 v1 M_30) else (bI (mo_ofBrother v2 5 M_30) fun z_34 M_33 => (bif cmpB .ge z_34 0 then (mo_needed_J134  (mo_needed_L112  K1 n) K1 v1 v2 0 M_33) else (mo_needed_J134  (mo_needed_L112  K1 n) K1 v1 v2 1 M_33)))))
set_option maxRecDepth 4000 in
theorem mo_needed_L112_ok {Z : Nat × (Nat → Int)} {d : Nat} (hd : 2 ≤ d)  {K1 : Int → MM → OR} {res : AR × MM} (k1 : ∀ (x1 : Int) (M : MM) (j0 j2 j3 j4 : AV), K1 x1 M = some res → EX Z d 273 207 [j0, vI x1, j2, j3, j4] [] M res) : ∀ (n : Nat) (v1 v2 : Int) (M : MM) (j3 j4 : AV), mo_needed_L112  K1 n v1 v2 M = some res → EX Z d 273 112 [vR 165, vI v1, vI v2, j3, j4] [] M res := by
  obtain ⟨e9, rfl⟩ : ∃ e9, d = e9 + 1 := ⟨d - 1, by omega⟩
  intro n
  induction n with
  | zero =>
    intro v1 v2 M j3 j4 hf
    unfold mo_needed_L112 at hf
    cases hf
  | succ n ih =>
    intro v1 v2 M j3 j4 hf
    unfold mo_needed_L112 at hf
    refine ex_pu (ls' := [vR 165, vI v1, vI v2, j3, j4]) (st' := [vI v2]) (dg dc273 63 rfl) rfl rfl ?_
    refine ex_pu (ls' := [vR 165, vI v1, vI v2, j3, j4]) (st' := [vR 165, vI v2]) (dg dc273 64 rfl) rfl rfl ?_
    refine ex_cI (vs := [vR 165]) (st' := [vI v2]) (F := (mo_brothers  M)) (Or.inr (Or.inl ⟨rfl, (dg dc273 65 rfl)⟩)) rfl rfl (rk1 (LOC.st (Nat.le_of_ble_eq_true rfl) rfl) rfl) rfl (fun _ r9 => mo_brothers_ok (Z := Z) (d := e9) (by omega)  r9) hf (fun z_31 M_30 he_29 hf => ?_)
    refine ex_icmp (t := 207) (dg dc273 66 rfl) rfl hf (fun _ hf => ?_) (fun _ hf => ?_)
    · exact k1 v1 M_30 _ _ _ _ hf
    · refine ex_pu (ls' := [vR 165, vI v1, vI v2, j3, j4]) (st' := [vR 165]) (dg dc273 67 rfl) rfl rfl ?_
      refine ex_pu (ls' := [vR 165, vI v1, vI v2, j3, j4]) (st' := [vI v2, vR 165]) (dg dc273 68 rfl) rfl rfl ?_
      refine ex_pu (ls' := [vR 165, vI v1, vI v2, j3, j4]) (st' := [vI 5, vI v2, vR 165]) (dg dc273 69 rfl) rfl rfl ?_
      refine ex_cI (vs := [vR 165, vI v2, vI 5]) (st' := []) (F := (mo_ofBrother v2 5 M_30)) (Or.inr (Or.inl ⟨rfl, (dg dc273 70 rfl)⟩)) rfl rfl (rk1 (LOC.st (Nat.le_of_ble_eq_true rfl) rfl) rfl) rfl (fun _ r9 => mo_ofBrother_ok (Z := Z) (d := e9) (by omega)  r9) hf (fun z_34 M_33 he_32 hf => ?_)
      refine ex_if (t := 133) (dg dc273 71 rfl) rfl hf (fun _ hf => ?_) (fun _ hf => ?_)
      · refine ex_pu (ls' := [vR 165, vI v1, vI v2, j3, j4]) (st' := [vI 0]) (dg dc273 74 rfl) rfl rfl ?_
        exact mo_needed_J134_ok hd  ih k1 v1 v2 0 M_33 _ _ hf
      · refine ex_pu (ls' := [vR 165, vI v1, vI v2, j3, j4]) (st' := [vI 1]) (dg dc273 72 rfl) rfl rfl ?_
        refine ex_goto (t := 134) (dg dc273 73 rfl) rfl rfl ?_
        exact mo_needed_J134_ok hd  ih k1 v1 v2 1 M_33 _ _ hf
def mo_needed  (M : MM) : OR :=
  (sM (mU M 165 0 0) fun M_1 => (mo_needed_L9  (fun v1_24 M_25 => (mo_needed_L112  (fun v1_47 M_48 => some (rI v1_47, M_48)) FU v1_24 0 M_25)) FU 0 0 M_1))
set_option maxRecDepth 4000 in
theorem mo_needed_ok {Z : Nat × (Nat → Int)} {d : Nat} (hd : 2 ≤ d) {M : MM}  {res : AR × MM} (hf : mo_needed  M = some res) : EX Z d 273 0 (ent 273 [vR 165]) [] M res := by
  obtain ⟨e9, rfl⟩ : ∃ e9, d = e9 + 1 := ⟨d - 1, by omega⟩
  unfold mo_needed at hf
  show EX Z _ 273 0 [vR 165, vU, vU, vU, vU] [] M res
  refine ex_pu (ls' := [vR 165, vU, vU, vU, vU]) (st' := [vR 165]) (dg dc273 0 rfl) rfl rfl ?_
  refine ex_pu (ls' := [vR 165, vU, vU, vU, vU]) (st' := [vI 0, vR 165]) (dg dc273 1 rfl) rfl rfl ?_
  refine ex_putI (dg dc273 2 rfl) rfl (LOC.st (Nat.le_of_ble_eq_true rfl) rfl) rfl rfl rfl ?_
  refine ex_gen hf (fun M_1 hM_2 hf => ?_)
  refine ex_pu (ls' := [vR 165, vU, vU, vU, vU]) (st' := [vI 0]) (dg dc273 3 rfl) rfl rfl ?_
  refine ex_pu (ls' := [vR 165, vI 0, vU, vU, vU]) (st' := []) (dg dc273 4 rfl) rfl rfl ?_
  refine ex_pu (ls' := [vR 165, vI 0, vU, vU, vU]) (st' := [vI 0]) (dg dc273 5 rfl) rfl rfl ?_
  refine ex_pu (ls' := [vR 165, vI 0, vI 0, vU, vU]) (st' := []) (dg dc273 6 rfl) rfl rfl ?_
  refine mo_needed_L9_ok hd  ?_ FU 0 0 M_1 _ _ hf
  · intro v1_24 M_25 j2_26 j3_27 j4_28 hf
    refine ex_pu (ls' := [vR 165, vI v1_24, j2_26, j3_27, j4_28]) (st' := [vI 0]) (dg dc273 61 rfl) rfl rfl ?_
    refine ex_pu (ls' := [vR 165, vI v1_24, vI 0, j3_27, j4_28]) (st' := []) (dg dc273 62 rfl) rfl rfl ?_
    refine mo_needed_L112_ok hd  ?_ FU v1_24 0 M_25 _ _ hf
    · intro v1_47 M_48 j0_49 j2_50 j3_51 j4_52 hf
      refine ex_pu (ls' := [j0_49, vI v1_47, j2_50, j3_51, j4_52]) (st' := [vI v1_47]) (dg dc273 115 rfl) rfl rfl ?_
      exact ex_ire (dg dc273 116 rfl) rfl hf
-- GlassHillModel.laysFar
def il274 : List (Nat × Instr × Nat) := [(0, .iconst 0, 1), (1, .istore_n 2, 1), (2, .iload_n 2, 1), (3, .bipush 10, 2), (5, .if_icmp .ge 27, 3), (8, .aload_n 0, 1), (9, .getfield 46, 3), (12, .iload_n 2, 1), (13, .iload_n 2, 1), (14, .iload_n 1, 1), (15, .if_icmp .ne 7, 3), (18, .iconst 0, 1), (19, .goto 6, 3), (22, .ldc_w 459, 3), (25, .iastore, 1), (26, .iinc 2 1, 3), (29, .goto (-27), 3), (32, .iconst 0, 1), (33, .istore_n 2, 1), (34, .iload_n 2, 1), (35, .aload_n 0, 1), (36, .invokevirtual 76, 3), (39, .if_icmp .ge 103, 3), (42, .iconst 0, 1), (43, .istore_n 3, 1), (44, .iload_n 3, 1), (45, .aload_n 0, 1), (46, .invokevirtual 87, 3), (49, .if_icmp .ge 87, 3), (52, .aload_n 0, 1), (53, .iload_n 3, 1), (54, .iconst 0, 1), (55, .invokevirtual 352, 3), (58, .istore 4, 2), (60, .aload_n 0, 1), (61, .iload_n 3, 1), (62, .iconst 1, 1), (63, .invokevirtual 352, 3), (66, .istore 5, 2), (68, .aload_n 0, 1), (69, .getfield 46, 3), (72, .iload 4, 2), (74, .aload_n 0, 1), (75, .getfield 46, 3), (78, .iload 4, 2), (80, .iaload, 1), (81, .aload_n 0, 1), (82, .getfield 46, 3), (85, .iload 5, 2), (87, .iaload, 1), (88, .aload_n 0, 1), (89, .iload_n 3, 1), (90, .iconst 2, 1), (91, .invokevirtual 352, 3), (94, .iadd, 1), (95, .invokestatic 460, 3), (98, .iastore, 1), (99, .aload_n 0, 1), (100, .getfield 46, 3), (103, .iload 5, 2), (105, .aload_n 0, 1), (106, .getfield 46, 3), (109, .iload 5, 2), (111, .iaload, 1), (112, .aload_n 0, 1), (113, .getfield 46, 3), (116, .iload 4, 2), (118, .iaload, 1), (119, .aload_n 0, 1), (120, .iload_n 3, 1), (121, .iconst 2, 1), (122, .invokevirtual 352, 3), (125, .iadd, 1), (126, .invokestatic 460, 3), (129, .iastore, 1), (130, .iinc 3 1, 3), (133, .goto (-89), 3), (136, .iinc 2 1, 3), (139, .goto (-105), 3), (142, .iconst 0, 1), (143, .istore_n 2, 1), (144, .iload_n 2, 1), (145, .bipush 10, 2), (147, .if_icmp .ge 27, 3), (150, .aload_n 0, 1), (151, .getfield 46, 3), (154, .iload_n 2, 1), (155, .aload_n 0, 1), (156, .getfield 46, 3), (159, .iload_n 2, 1), (160, .iaload, 1), (161, .ldc_w 459, 3), (164, .invokestatic 460, 3), (167, .iastore, 1), (168, .iinc 2 1, 3), (171, .goto (-27), 3), (174, .return_, 1)]
theorem dc274 : dcs (mC 274) il274 := dc_of (by decide +kernel)
def mo_laysFar_L2  (v1 : Int) (K1 : MM → OR) : Nat → Int → MM → OR
  | 0, _, _ => none
  | n + 1, v2, M => (bif cmpB .ge v2 10 then (K1  M) else (bif cmpB .ne v2 v1 then (bif inB v2 10 then (sM (mU M 175 (v2).toNat 100000) fun M_1 => (mo_laysFar_L2 v1 K1 n (v2 + 1) M_1)) else none) else (bif inB v2 10 then (sM (mU M 175 (v2).toNat 0) fun M_3 => (mo_laysFar_L2 v1 K1 n (v2 + 1) M_3)) else none)))
set_option maxRecDepth 4000 in
theorem mo_laysFar_L2_ok {Z : Nat × (Nat → Int)} {d : Nat} (hd : 1 ≤ d)  {v1 : Int} {K1 : MM → OR} {res : AR × MM} (k1 : ∀ (M : MM) (j1 j2 j3 j4 j5 : AV), K1  M = some res → EX Z d 274 32 [vR 165, j1, j2, j3, j4, j5] [] M res) : ∀ (n : Nat) (v2 : Int) (M : MM) (j3 j4 j5 : AV), mo_laysFar_L2 v1 K1 n v2 M = some res → EX Z d 274 2 [vR 165, vI v1, vI v2, j3, j4, j5] [] M res := by
  obtain ⟨e9, rfl⟩ : ∃ e9, d = e9 + 1 := ⟨d - 1, by omega⟩
  intro n
  induction n with
  | zero =>
    intro v2 M j3 j4 j5 hf
    unfold mo_laysFar_L2 at hf
    cases hf
  | succ n ih =>
    intro v2 M j3 j4 j5 hf
    unfold mo_laysFar_L2 at hf
    refine ex_pu (ls' := [vR 165, vI v1, vI v2, j3, j4, j5]) (st' := [vI v2]) (dg dc274 2 rfl) rfl rfl ?_
    refine ex_pu (ls' := [vR 165, vI v1, vI v2, j3, j4, j5]) (st' := [vI 10, vI v2]) (dg dc274 3 rfl) rfl rfl ?_
    refine ex_icmp (t := 32) (dg dc274 4 rfl) rfl hf (fun _ hf => ?_) (fun _ hf => ?_)
    · exact k1  M _ _ _ _ _ hf
    · refine ex_pu (ls' := [vR 165, vI v1, vI v2, j3, j4, j5]) (st' := [vR 165]) (dg dc274 5 rfl) rfl rfl ?_
      refine ex_getO (dg dc274 6 rfl) rfl (LOC.st (Nat.le_of_ble_eq_true rfl) rfl) rfl ?_
      show EX Z _ 274 _ [vR 165, vI v1, vI v2, j3, j4, j5] [vR 175] _ _
      refine ex_pu (ls' := [vR 165, vI v1, vI v2, j3, j4, j5]) (st' := [vI v2, vR 175]) (dg dc274 7 rfl) rfl rfl ?_
      refine ex_pu (ls' := [vR 165, vI v1, vI v2, j3, j4, j5]) (st' := [vI v2, vI v2, vR 175]) (dg dc274 8 rfl) rfl rfl ?_
      refine ex_pu (ls' := [vR 165, vI v1, vI v2, j3, j4, j5]) (st' := [vI v1, vI v2, vI v2, vR 175]) (dg dc274 9 rfl) rfl rfl ?_
      refine ex_icmp (t := 22) (dg dc274 10 rfl) rfl hf (fun _ hf => ?_) (fun _ hf => ?_)
      · refine ex_ldcW (dg dc274 13 rfl) rfl ?_
        refine ex_iast (dg dc274 14 rfl) (LOC.st (Nat.le_of_ble_eq_true rfl) rfl) rfl rfl hf (fun _ hf => ?_)
        refine ex_gen hf (fun M_1 hM_2 hf => ?_)
        refine ex_pu (ls' := [vR 165, vI v1, vI (v2 + 1), j3, j4, j5]) (st' := []) (dg dc274 15 rfl) rfl rfl ?_
        refine ex_goto (t := 2) (dg dc274 16 rfl) rfl rfl ?_
        exact ih (v2 + 1) M_1 _ _ _ hf
      · refine ex_pu (ls' := [vR 165, vI v1, vI v2, j3, j4, j5]) (st' := [vI 0, vI v2, vR 175]) (dg dc274 11 rfl) rfl rfl ?_
        refine ex_goto (t := 25) (dg dc274 12 rfl) rfl rfl ?_
        refine ex_iast (dg dc274 14 rfl) (LOC.st (Nat.le_of_ble_eq_true rfl) rfl) rfl rfl hf (fun _ hf => ?_)
        refine ex_gen hf (fun M_3 hM_4 hf => ?_)
        refine ex_pu (ls' := [vR 165, vI v1, vI (v2 + 1), j3, j4, j5]) (st' := []) (dg dc274 15 rfl) rfl rfl ?_
        refine ex_goto (t := 2) (dg dc274 16 rfl) rfl rfl ?_
        exact ih (v2 + 1) M_3 _ _ _ hf
def mo_laysFar_L44  (v2 : Int) (K1 : MM → OR) : Nat → Int → MM → OR
  | 0, _, _ => none
  | n + 1, v3, M => (bI (mo_roads  M) fun z_17 M_16 => (bif cmpB .ge v3 z_17 then (K1  M_16) else (bI (mo_ofRoad v3 0 M_16) fun z_20 M_19 => (bI (mo_ofRoad v3 1 M_19) fun z_23 M_22 => (bif inB z_20 10 then (bif inB z_23 10 then (bI (mo_ofRoad v3 2 M_22) fun z_26 M_25 => (bif inB z_20 10 then (sM (mU M_25 175 (z_20).toNat (imin (M_22 175 (z_20).toNat) ((M_22 175 (z_23).toNat) + z_26))) fun M_27 => (bif inB z_23 10 then (bif inB z_20 10 then (bI (mo_ofRoad v3 2 M_27) fun z_31 M_30 => (bif inB z_23 10 then (sM (mU M_30 175 (z_23).toNat (imin (M_27 175 (z_23).toNat) ((M_27 175 (z_20).toNat) + z_31))) fun M_32 => (mo_laysFar_L44 v2 K1 n (v3 + 1) M_32)) else none)) else none) else none)) else none)) else none) else none)))))
set_option maxRecDepth 4000 in
theorem mo_laysFar_L44_ok {Z : Nat × (Nat → Int)} {d : Nat} (hd : 1 ≤ d)  {v2 : Int} {K1 : MM → OR} {res : AR × MM} (k1 : ∀ (M : MM) (j1 j3 j4 j5 : AV), K1  M = some res → EX Z d 274 136 [vR 165, j1, vI v2, j3, j4, j5] [] M res) : ∀ (n : Nat) (v3 : Int) (M : MM) (j1 j4 j5 : AV), mo_laysFar_L44 v2 K1 n v3 M = some res → EX Z d 274 44 [vR 165, j1, vI v2, vI v3, j4, j5] [] M res := by
  obtain ⟨e9, rfl⟩ : ∃ e9, d = e9 + 1 := ⟨d - 1, by omega⟩
  intro n
  induction n with
  | zero =>
    intro v3 M j1 j4 j5 hf
    unfold mo_laysFar_L44 at hf
    cases hf
  | succ n ih =>
    intro v3 M j1 j4 j5 hf
    unfold mo_laysFar_L44 at hf
    refine ex_pu (ls' := [vR 165, j1, vI v2, vI v3, j4, j5]) (st' := [vI v3]) (dg dc274 25 rfl) rfl rfl ?_
    refine ex_pu (ls' := [vR 165, j1, vI v2, vI v3, j4, j5]) (st' := [vR 165, vI v3]) (dg dc274 26 rfl) rfl rfl ?_
    refine ex_cI (vs := [vR 165]) (st' := [vI v3]) (F := (mo_roads  M)) (Or.inr (Or.inl ⟨rfl, (dg dc274 27 rfl)⟩)) rfl rfl (rk1 (LOC.st (Nat.le_of_ble_eq_true rfl) rfl) rfl) rfl (fun _ r9 => mo_roads_ok (Z := Z) (d := e9) (by omega)  r9) hf (fun z_17 M_16 he_15 hf => ?_)
    refine ex_icmp (t := 136) (dg dc274 28 rfl) rfl hf (fun _ hf => ?_) (fun _ hf => ?_)
    · exact k1  M_16 _ _ _ _ hf
    · refine ex_pu (ls' := [vR 165, j1, vI v2, vI v3, j4, j5]) (st' := [vR 165]) (dg dc274 29 rfl) rfl rfl ?_
      refine ex_pu (ls' := [vR 165, j1, vI v2, vI v3, j4, j5]) (st' := [vI v3, vR 165]) (dg dc274 30 rfl) rfl rfl ?_
      refine ex_pu (ls' := [vR 165, j1, vI v2, vI v3, j4, j5]) (st' := [vI 0, vI v3, vR 165]) (dg dc274 31 rfl) rfl rfl ?_
      refine ex_cI (vs := [vR 165, vI v3, vI 0]) (st' := []) (F := (mo_ofRoad v3 0 M_16)) (Or.inr (Or.inl ⟨rfl, (dg dc274 32 rfl)⟩)) rfl rfl (rk1 (LOC.st (Nat.le_of_ble_eq_true rfl) rfl) rfl) rfl (fun _ r9 => mo_ofRoad_ok (Z := Z) (d := e9) (by omega)  r9) hf (fun z_20 M_19 he_18 hf => ?_)
      refine ex_pu (ls' := [vR 165, j1, vI v2, vI v3, vI z_20, j5]) (st' := []) (dg dc274 33 rfl) rfl rfl ?_
      refine ex_pu (ls' := [vR 165, j1, vI v2, vI v3, vI z_20, j5]) (st' := [vR 165]) (dg dc274 34 rfl) rfl rfl ?_
      refine ex_pu (ls' := [vR 165, j1, vI v2, vI v3, vI z_20, j5]) (st' := [vI v3, vR 165]) (dg dc274 35 rfl) rfl rfl ?_
      refine ex_pu (ls' := [vR 165, j1, vI v2, vI v3, vI z_20, j5]) (st' := [vI 1, vI v3, vR 165]) (dg dc274 36 rfl) rfl rfl ?_
      refine ex_cI (vs := [vR 165, vI v3, vI 1]) (st' := []) (F := (mo_ofRoad v3 1 M_19)) (Or.inr (Or.inl ⟨rfl, (dg dc274 37 rfl)⟩)) rfl rfl (rk1 (LOC.st (Nat.le_of_ble_eq_true rfl) rfl) rfl) rfl (fun _ r9 => mo_ofRoad_ok (Z := Z) (d := e9) (by omega)  r9) hf (fun z_23 M_22 he_21 hf => ?_)
      refine ex_pu (ls' := [vR 165, j1, vI v2, vI v3, vI z_20, vI z_23]) (st' := []) (dg dc274 38 rfl) rfl rfl ?_
      refine ex_pu (ls' := [vR 165, j1, vI v2, vI v3, vI z_20, vI z_23]) (st' := [vR 165]) (dg dc274 39 rfl) rfl rfl ?_
      refine ex_getO (dg dc274 40 rfl) rfl (LOC.st (Nat.le_of_ble_eq_true rfl) rfl) rfl ?_
      show EX Z _ 274 _ [vR 165, j1, vI v2, vI v3, vI z_20, vI z_23] [vR 175] _ _
      refine ex_pu (ls' := [vR 165, j1, vI v2, vI v3, vI z_20, vI z_23]) (st' := [vI z_20, vR 175]) (dg dc274 41 rfl) rfl rfl ?_
      refine ex_pu (ls' := [vR 165, j1, vI v2, vI v3, vI z_20, vI z_23]) (st' := [vR 165, vI z_20, vR 175]) (dg dc274 42 rfl) rfl rfl ?_
      refine ex_getO (dg dc274 43 rfl) rfl (LOC.st (Nat.le_of_ble_eq_true rfl) rfl) rfl ?_
      show EX Z _ 274 _ [vR 165, j1, vI v2, vI v3, vI z_20, vI z_23] [vR 175, vI z_20, vR 175] _ _
      refine ex_pu (ls' := [vR 165, j1, vI v2, vI v3, vI z_20, vI z_23]) (st' := [vI z_20, vR 175, vI z_20, vR 175]) (dg dc274 44 rfl) rfl rfl ?_
      refine ex_iald (dg dc274 45 rfl) (LOC.st (Nat.le_of_ble_eq_true rfl) rfl) rfl hf (fun _ hf => ?_)
      refine ex_pu (ls' := [vR 165, j1, vI v2, vI v3, vI z_20, vI z_23]) (st' := [vR 165, vI (M_22 175 (z_20).toNat), vI z_20, vR 175]) (dg dc274 46 rfl) rfl rfl ?_
      refine ex_getO (dg dc274 47 rfl) rfl (LOC.st (Nat.le_of_ble_eq_true rfl) rfl) rfl ?_
      show EX Z _ 274 _ [vR 165, j1, vI v2, vI v3, vI z_20, vI z_23] [vR 175, vI (M_22 175 (z_20).toNat), vI z_20, vR 175] _ _
      refine ex_pu (ls' := [vR 165, j1, vI v2, vI v3, vI z_20, vI z_23]) (st' := [vI z_23, vR 175, vI (M_22 175 (z_20).toNat), vI z_20, vR 175]) (dg dc274 48 rfl) rfl rfl ?_
      refine ex_iald (dg dc274 49 rfl) (LOC.st (Nat.le_of_ble_eq_true rfl) rfl) rfl hf (fun _ hf => ?_)
      refine ex_pu (ls' := [vR 165, j1, vI v2, vI v3, vI z_20, vI z_23]) (st' := [vR 165, vI (M_22 175 (z_23).toNat), vI (M_22 175 (z_20).toNat), vI z_20, vR 175]) (dg dc274 50 rfl) rfl rfl ?_
      refine ex_pu (ls' := [vR 165, j1, vI v2, vI v3, vI z_20, vI z_23]) (st' := [vI v3, vR 165, vI (M_22 175 (z_23).toNat), vI (M_22 175 (z_20).toNat), vI z_20, vR 175]) (dg dc274 51 rfl) rfl rfl ?_
      refine ex_pu (ls' := [vR 165, j1, vI v2, vI v3, vI z_20, vI z_23]) (st' := [vI 2, vI v3, vR 165, vI (M_22 175 (z_23).toNat), vI (M_22 175 (z_20).toNat), vI z_20, vR 175]) (dg dc274 52 rfl) rfl rfl ?_
      refine ex_cI (vs := [vR 165, vI v3, vI 2]) (st' := [vI (M_22 175 (z_23).toNat), vI (M_22 175 (z_20).toNat), vI z_20, vR 175]) (F := (mo_ofRoad v3 2 M_22)) (Or.inr (Or.inl ⟨rfl, (dg dc274 53 rfl)⟩)) rfl rfl (rk1 (LOC.st (Nat.le_of_ble_eq_true rfl) rfl) rfl) rfl (fun _ r9 => mo_ofRoad_ok (Z := Z) (d := e9) (by omega)  r9) hf (fun z_26 M_25 he_24 hf => ?_)
      refine ex_pu (ls' := [vR 165, j1, vI v2, vI v3, vI z_20, vI z_23]) (st' := [vI ((M_22 175 (z_23).toNat) + z_26), vI (M_22 175 (z_20).toNat), vI z_20, vR 175]) (dg dc274 54 rfl) rfl rfl ?_
      refine ex_min (dg dc274 55 rfl) rfl rfl ?_
      refine ex_iast (dg dc274 56 rfl) (LOC.st (Nat.le_of_ble_eq_true rfl) rfl) rfl rfl hf (fun _ hf => ?_)
      refine ex_gen hf (fun M_27 hM_28 hf => ?_)
      refine ex_pu (ls' := [vR 165, j1, vI v2, vI v3, vI z_20, vI z_23]) (st' := [vR 165]) (dg dc274 57 rfl) rfl rfl ?_
      refine ex_getO (dg dc274 58 rfl) rfl (LOC.st (Nat.le_of_ble_eq_true rfl) rfl) rfl ?_
      show EX Z _ 274 _ [vR 165, j1, vI v2, vI v3, vI z_20, vI z_23] [vR 175] _ _
      refine ex_pu (ls' := [vR 165, j1, vI v2, vI v3, vI z_20, vI z_23]) (st' := [vI z_23, vR 175]) (dg dc274 59 rfl) rfl rfl ?_
      refine ex_pu (ls' := [vR 165, j1, vI v2, vI v3, vI z_20, vI z_23]) (st' := [vR 165, vI z_23, vR 175]) (dg dc274 60 rfl) rfl rfl ?_
      refine ex_getO (dg dc274 61 rfl) rfl (LOC.st (Nat.le_of_ble_eq_true rfl) rfl) rfl ?_
      show EX Z _ 274 _ [vR 165, j1, vI v2, vI v3, vI z_20, vI z_23] [vR 175, vI z_23, vR 175] _ _
      refine ex_pu (ls' := [vR 165, j1, vI v2, vI v3, vI z_20, vI z_23]) (st' := [vI z_23, vR 175, vI z_23, vR 175]) (dg dc274 62 rfl) rfl rfl ?_
      refine ex_iald (dg dc274 63 rfl) (LOC.st (Nat.le_of_ble_eq_true rfl) rfl) rfl hf (fun _ hf => ?_)
      refine ex_pu (ls' := [vR 165, j1, vI v2, vI v3, vI z_20, vI z_23]) (st' := [vR 165, vI (M_27 175 (z_23).toNat), vI z_23, vR 175]) (dg dc274 64 rfl) rfl rfl ?_
      refine ex_getO (dg dc274 65 rfl) rfl (LOC.st (Nat.le_of_ble_eq_true rfl) rfl) rfl ?_
      show EX Z _ 274 _ [vR 165, j1, vI v2, vI v3, vI z_20, vI z_23] [vR 175, vI (M_27 175 (z_23).toNat), vI z_23, vR 175] _ _
      refine ex_pu (ls' := [vR 165, j1, vI v2, vI v3, vI z_20, vI z_23]) (st' := [vI z_20, vR 175, vI (M_27 175 (z_23).toNat), vI z_23, vR 175]) (dg dc274 66 rfl) rfl rfl ?_
      refine ex_iald (dg dc274 67 rfl) (LOC.st (Nat.le_of_ble_eq_true rfl) rfl) rfl hf (fun _ hf => ?_)
      refine ex_pu (ls' := [vR 165, j1, vI v2, vI v3, vI z_20, vI z_23]) (st' := [vR 165, vI (M_27 175 (z_20).toNat), vI (M_27 175 (z_23).toNat), vI z_23, vR 175]) (dg dc274 68 rfl) rfl rfl ?_
      refine ex_pu (ls' := [vR 165, j1, vI v2, vI v3, vI z_20, vI z_23]) (st' := [vI v3, vR 165, vI (M_27 175 (z_20).toNat), vI (M_27 175 (z_23).toNat), vI z_23, vR 175]) (dg dc274 69 rfl) rfl rfl ?_
      refine ex_pu (ls' := [vR 165, j1, vI v2, vI v3, vI z_20, vI z_23]) (st' := [vI 2, vI v3, vR 165, vI (M_27 175 (z_20).toNat), vI (M_27 175 (z_23).toNat), vI z_23, vR 175]) (dg dc274 70 rfl) rfl rfl ?_
      refine ex_cI (vs := [vR 165, vI v3, vI 2]) (st' := [vI (M_27 175 (z_20).toNat), vI (M_27 175 (z_23).toNat), vI z_23, vR 175]) (F := (mo_ofRoad v3 2 M_27)) (Or.inr (Or.inl ⟨rfl, (dg dc274 71 rfl)⟩)) rfl rfl (rk1 (LOC.st (Nat.le_of_ble_eq_true rfl) rfl) rfl) rfl (fun _ r9 => mo_ofRoad_ok (Z := Z) (d := e9) (by omega)  r9) hf (fun z_31 M_30 he_29 hf => ?_)
      refine ex_pu (ls' := [vR 165, j1, vI v2, vI v3, vI z_20, vI z_23]) (st' := [vI ((M_27 175 (z_20).toNat) + z_31), vI (M_27 175 (z_23).toNat), vI z_23, vR 175]) (dg dc274 72 rfl) rfl rfl ?_
      refine ex_min (dg dc274 73 rfl) rfl rfl ?_
      refine ex_iast (dg dc274 74 rfl) (LOC.st (Nat.le_of_ble_eq_true rfl) rfl) rfl rfl hf (fun _ hf => ?_)
      refine ex_gen hf (fun M_32 hM_33 hf => ?_)
      refine ex_pu (ls' := [vR 165, j1, vI v2, vI (v3 + 1), vI z_20, vI z_23]) (st' := []) (dg dc274 75 rfl) rfl rfl ?_
      refine ex_goto (t := 44) (dg dc274 76 rfl) rfl rfl ?_
      exact ih (v3 + 1) M_32 _ _ _ hf
def mo_laysFar_L34  (K1 : MM → OR) : Nat → Int → MM → OR
  | 0, _, _ => none
  | n + 1, v2, M => (bI (mo_places  M) fun z_14 M_13 => (bif cmpB .ge v2 z_14 then (K1  M_13) else (mo_laysFar_L44 v2 (fun M_34 => (mo_laysFar_L34  K1 n (v2 + 1) M_34)) FU 0 M_13)))
set_option maxRecDepth 4000 in
theorem mo_laysFar_L34_ok {Z : Nat × (Nat → Int)} {d : Nat} (hd : 1 ≤ d)  {K1 : MM → OR} {res : AR × MM} (k1 : ∀ (M : MM) (j1 j2 j3 j4 j5 : AV), K1  M = some res → EX Z d 274 142 [vR 165, j1, j2, j3, j4, j5] [] M res) : ∀ (n : Nat) (v2 : Int) (M : MM) (j1 j3 j4 j5 : AV), mo_laysFar_L34  K1 n v2 M = some res → EX Z d 274 34 [vR 165, j1, vI v2, j3, j4, j5] [] M res := by
  obtain ⟨e9, rfl⟩ : ∃ e9, d = e9 + 1 := ⟨d - 1, by omega⟩
  intro n
  induction n with
  | zero =>
    intro v2 M j1 j3 j4 j5 hf
    unfold mo_laysFar_L34 at hf
    cases hf
  | succ n ih =>
    intro v2 M j1 j3 j4 j5 hf
    unfold mo_laysFar_L34 at hf
    refine ex_pu (ls' := [vR 165, j1, vI v2, j3, j4, j5]) (st' := [vI v2]) (dg dc274 19 rfl) rfl rfl ?_
    refine ex_pu (ls' := [vR 165, j1, vI v2, j3, j4, j5]) (st' := [vR 165, vI v2]) (dg dc274 20 rfl) rfl rfl ?_
    refine ex_cI (vs := [vR 165]) (st' := [vI v2]) (F := (mo_places  M)) (Or.inr (Or.inl ⟨rfl, (dg dc274 21 rfl)⟩)) rfl rfl (rk1 (LOC.st (Nat.le_of_ble_eq_true rfl) rfl) rfl) rfl (fun _ r9 => mo_places_ok (Z := Z) (d := e9) (by omega)  r9) hf (fun z_14 M_13 he_12 hf => ?_)
    refine ex_icmp (t := 142) (dg dc274 22 rfl) rfl hf (fun _ hf => ?_) (fun _ hf => ?_)
    · exact k1  M_13 _ _ _ _ _ hf
    · refine ex_pu (ls' := [vR 165, j1, vI v2, j3, j4, j5]) (st' := [vI 0]) (dg dc274 23 rfl) rfl rfl ?_
      refine ex_pu (ls' := [vR 165, j1, vI v2, vI 0, j4, j5]) (st' := []) (dg dc274 24 rfl) rfl rfl ?_
      refine mo_laysFar_L44_ok hd  ?_ FU 0 M_13 _ _ _ hf
      · intro M_34 j1_35 j3_36 j4_37 j5_38 hf
        refine ex_incD (dg dc274 77 rfl) rfl rfl (fun w_39 => ?_)
        show EX Z _ 274 _ [vR 165, w_39, vI (v2 + 1), j3_36, j4_37, j5_38] [] _ _
        refine ex_goto (t := 34) (dg dc274 78 rfl) rfl rfl ?_
        exact ih (v2 + 1) M_34 _ _ _ _ hf
def mo_laysFar_L144  (K1 : MM → OR) : Nat → Int → MM → OR
  | 0, _, _ => none
  | n + 1, v2, M => (bif cmpB .ge v2 10 then (K1  M) else (bif inB v2 10 then (bif inB v2 10 then (sM (mU M 175 (v2).toNat (imin (M 175 (v2).toNat) 100000)) fun M_47 => (mo_laysFar_L144  K1 n (v2 + 1) M_47)) else none) else none))
set_option maxRecDepth 4000 in
theorem mo_laysFar_L144_ok {Z : Nat × (Nat → Int)} {d : Nat} (hd : 1 ≤ d)  {K1 : MM → OR} {res : AR × MM} (k1 : ∀ (M : MM) (j0 j1 j2 j3 j4 j5 : AV), K1  M = some res → EX Z d 274 174 [j0, j1, j2, j3, j4, j5] [] M res) : ∀ (n : Nat) (v2 : Int) (M : MM) (j1 j3 j4 j5 : AV), mo_laysFar_L144  K1 n v2 M = some res → EX Z d 274 144 [vR 165, j1, vI v2, j3, j4, j5] [] M res := by
  obtain ⟨e9, rfl⟩ : ∃ e9, d = e9 + 1 := ⟨d - 1, by omega⟩
  intro n
  induction n with
  | zero =>
    intro v2 M j1 j3 j4 j5 hf
    unfold mo_laysFar_L144 at hf
    cases hf
  | succ n ih =>
    intro v2 M j1 j3 j4 j5 hf
    unfold mo_laysFar_L144 at hf
    refine ex_pu (ls' := [vR 165, j1, vI v2, j3, j4, j5]) (st' := [vI v2]) (dg dc274 81 rfl) rfl rfl ?_
    refine ex_pu (ls' := [vR 165, j1, vI v2, j3, j4, j5]) (st' := [vI 10, vI v2]) (dg dc274 82 rfl) rfl rfl ?_
    refine ex_icmp (t := 174) (dg dc274 83 rfl) rfl hf (fun _ hf => ?_) (fun _ hf => ?_)
    · exact k1  M _ _ _ _ _ _ hf
    · refine ex_pu (ls' := [vR 165, j1, vI v2, j3, j4, j5]) (st' := [vR 165]) (dg dc274 84 rfl) rfl rfl ?_
      refine ex_getO (dg dc274 85 rfl) rfl (LOC.st (Nat.le_of_ble_eq_true rfl) rfl) rfl ?_
      show EX Z _ 274 _ [vR 165, j1, vI v2, j3, j4, j5] [vR 175] _ _
      refine ex_pu (ls' := [vR 165, j1, vI v2, j3, j4, j5]) (st' := [vI v2, vR 175]) (dg dc274 86 rfl) rfl rfl ?_
      refine ex_pu (ls' := [vR 165, j1, vI v2, j3, j4, j5]) (st' := [vR 165, vI v2, vR 175]) (dg dc274 87 rfl) rfl rfl ?_
      refine ex_getO (dg dc274 88 rfl) rfl (LOC.st (Nat.le_of_ble_eq_true rfl) rfl) rfl ?_
      show EX Z _ 274 _ [vR 165, j1, vI v2, j3, j4, j5] [vR 175, vI v2, vR 175] _ _
      refine ex_pu (ls' := [vR 165, j1, vI v2, j3, j4, j5]) (st' := [vI v2, vR 175, vI v2, vR 175]) (dg dc274 89 rfl) rfl rfl ?_
      refine ex_iald (dg dc274 90 rfl) (LOC.st (Nat.le_of_ble_eq_true rfl) rfl) rfl hf (fun _ hf => ?_)
      refine ex_ldcW (dg dc274 91 rfl) rfl ?_
      refine ex_min (dg dc274 92 rfl) rfl rfl ?_
      refine ex_iast (dg dc274 93 rfl) (LOC.st (Nat.le_of_ble_eq_true rfl) rfl) rfl rfl hf (fun _ hf => ?_)
      refine ex_gen hf (fun M_47 hM_48 hf => ?_)
      refine ex_incD (dg dc274 94 rfl) rfl rfl (fun w_49 => ?_)
      show EX Z _ 274 _ [vR 165, w_49, vI (v2 + 1), j3, j4, j5] [] _ _
      refine ex_goto (t := 144) (dg dc274 95 rfl) rfl rfl ?_
      exact ih (v2 + 1) M_47 _ _ _ _ hf
def mo_laysFar (v1 : Int) (M : MM) : OR :=
  (mo_laysFar_L2 v1 (fun M_5 => (mo_laysFar_L34  (fun M_40 => (mo_laysFar_L144  (fun M_50 => some (rV, M_50)) FU 0 M_40)) FU 0 M_5)) FU 0 M)
set_option maxRecDepth 4000 in
theorem mo_laysFar_ok {Z : Nat × (Nat → Int)} {d : Nat} (hd : 1 ≤ d) {M : MM}  {v1 : Int} {res : AR × MM} (hf : mo_laysFar v1 M = some res) : EX Z d 274 0 (ent 274 [vR 165, vI v1]) [] M res := by
  obtain ⟨e9, rfl⟩ : ∃ e9, d = e9 + 1 := ⟨d - 1, by omega⟩
  unfold mo_laysFar at hf
  show EX Z _ 274 0 [vR 165, vI v1, vU, vU, vU, vU] [] M res
  refine ex_pu (ls' := [vR 165, vI v1, vU, vU, vU, vU]) (st' := [vI 0]) (dg dc274 0 rfl) rfl rfl ?_
  refine ex_pu (ls' := [vR 165, vI v1, vI 0, vU, vU, vU]) (st' := []) (dg dc274 1 rfl) rfl rfl ?_
  refine mo_laysFar_L2_ok hd  ?_ FU 0 M _ _ _ hf
  · intro M_5 j1_6 j2_7 j3_8 j4_9 j5_10 hf
    refine ex_pu (ls' := [vR 165, j1_6, j2_7, j3_8, j4_9, j5_10]) (st' := [vI 0]) (dg dc274 17 rfl) rfl rfl ?_
    refine ex_istDn (dg dc274 18 rfl) rfl rfl (fun w_11 => ?_)
    show EX Z _ 274 _ [vR 165, w_11, vI 0, j3_8, j4_9, j5_10] [] _ _
    refine mo_laysFar_L34_ok hd  ?_ FU 0 M_5 _ _ _ _ hf
    · intro M_40 j1_41 j2_42 j3_43 j4_44 j5_45 hf
      refine ex_pu (ls' := [vR 165, j1_41, j2_42, j3_43, j4_44, j5_45]) (st' := [vI 0]) (dg dc274 79 rfl) rfl rfl ?_
      refine ex_istDn (dg dc274 80 rfl) rfl rfl (fun w_46 => ?_)
      show EX Z _ 274 _ [vR 165, w_46, vI 0, j3_43, j4_44, j5_45] [] _ _
      refine mo_laysFar_L144_ok hd  ?_ FU 0 M_40 _ _ _ _ hf
      · intro M_50 j0_51 j1_52 j2_53 j3_54 j4_55 j5_56 hf
        exact ex_vre (dg dc274 96 rfl) rfl hf
-- GlassHillModel.far
def il275 : List (Nat × Instr × Nat) := [(0, .aload_n 0, 1), (1, .iconst 0, 1), (2, .putfield 3, 3), (5, .aload_n 0, 1), (6, .aload_n 0, 1), (7, .iload_n 1, 1), (8, .invokevirtual 393, 3), (11, .ifCond .ne 11, 3), (14, .aload_n 0, 1), (15, .iload_n 2, 1), (16, .invokevirtual 393, 3), (19, .ifCond .eq 7, 3), (22, .iconst 1, 1), (23, .goto 4, 3), (26, .iconst 0, 1), (27, .iconst 1, 1), (28, .invokevirtual 274, 3), (31, .ifCond .eq 5, 3), (34, .iconst 0, 1), (35, .ireturn, 1), (36, .aload_n 0, 1), (37, .iload_n 1, 1), (38, .invokevirtual 465, 3), (41, .aload_n 0, 1), (42, .getfield 46, 3), (45, .iload_n 2, 1), (46, .iaload, 1), (47, .ldc_w 459, 3), (50, .if_icmp .ne 7, 3), (53, .iconst (-1), 1), (54, .goto 9, 3), (57, .aload_n 0, 1), (58, .getfield 46, 3), (61, .iload_n 2, 1), (62, .iaload, 1), (63, .ireturn, 1)]
theorem dc275 : dcs (mC 275) il275 := dc_of (by decide +kernel)
def mo_far_J27   (v1 v2 s0 : Int) (M : MM) : OR :=
  (bI (mo_throwsIf s0 1 M) fun z_8 M_7 => (bif cmpB .eq z_8 0 then (bV (mo_laysFar v1 M_7) fun M_10 => (bif inB v2 10 then (bif cmpB .ne (M_10 175 (v2).toNat) 100000 then (bif inB v2 10 then some (rI (M_10 175 (v2).toNat), M_10) else none) else some (rI (-1), M_10)) else none)) else some (rI 0, M_7)))
set_option maxRecDepth 4000 in
theorem mo_far_J27_ok {Z : Nat × (Nat → Int)} {d : Nat} (hd : 2 ≤ d)   {res : AR × MM}  : ∀ (v1 v2 s0 : Int) (M : MM), mo_far_J27   v1 v2 s0 M = some res → EX Z d 275 27 [vR 165, vI v1, vI v2] [vI s0, vR 165] M res := by
  obtain ⟨e9, rfl⟩ : ∃ e9, d = e9 + 1 := ⟨d - 1, by omega⟩
  intro v1 v2 s0 M hf
  unfold mo_far_J27 at hf
  refine ex_pu (ls' := [vR 165, vI v1, vI v2]) (st' := [vI 1, vI s0, vR 165]) (dg dc275 15 rfl) rfl rfl ?_
  refine ex_cI (vs := [vR 165, vI s0, vI 1]) (st' := []) (F := (mo_throwsIf s0 1 M)) (Or.inr (Or.inl ⟨rfl, (dg dc275 16 rfl)⟩)) rfl rfl (rk1 (LOC.st (Nat.le_of_ble_eq_true rfl) rfl) rfl) rfl (fun _ r9 => mo_throwsIf_ok (Z := Z) (d := e9) (by omega)  r9) hf (fun z_8 M_7 he_6 hf => ?_)
  refine ex_if (t := 36) (dg dc275 17 rfl) rfl hf (fun _ hf => ?_) (fun _ hf => ?_)
  · refine ex_pu (ls' := [vR 165, vI v1, vI v2]) (st' := [vR 165]) (dg dc275 20 rfl) rfl rfl ?_
    refine ex_pu (ls' := [vR 165, vI v1, vI v2]) (st' := [vI v1, vR 165]) (dg dc275 21 rfl) rfl rfl ?_
    refine ex_cV (vs := [vR 165, vI v1]) (st' := []) (F := (mo_laysFar v1 M_7)) (Or.inr (Or.inl ⟨rfl, (dg dc275 22 rfl)⟩)) rfl rfl (rk1 (LOC.st (Nat.le_of_ble_eq_true rfl) rfl) rfl) rfl (fun _ r9 => mo_laysFar_ok (Z := Z) (d := e9) (by omega)  r9) hf (fun M_10 he_9 hf => ?_)
    refine ex_pu (ls' := [vR 165, vI v1, vI v2]) (st' := [vR 165]) (dg dc275 23 rfl) rfl rfl ?_
    refine ex_getO (dg dc275 24 rfl) rfl (LOC.st (Nat.le_of_ble_eq_true rfl) rfl) rfl ?_
    show EX Z _ 275 _ [vR 165, vI v1, vI v2] [vR 175] _ _
    refine ex_pu (ls' := [vR 165, vI v1, vI v2]) (st' := [vI v2, vR 175]) (dg dc275 25 rfl) rfl rfl ?_
    refine ex_iald (dg dc275 26 rfl) (LOC.st (Nat.le_of_ble_eq_true rfl) rfl) rfl hf (fun _ hf => ?_)
    refine ex_ldcW (dg dc275 27 rfl) rfl ?_
    refine ex_icmp (t := 57) (dg dc275 28 rfl) rfl hf (fun _ hf => ?_) (fun _ hf => ?_)
    · refine ex_pu (ls' := [vR 165, vI v1, vI v2]) (st' := [vR 165]) (dg dc275 31 rfl) rfl rfl ?_
      refine ex_getO (dg dc275 32 rfl) rfl (LOC.st (Nat.le_of_ble_eq_true rfl) rfl) rfl ?_
      show EX Z _ 275 _ [vR 165, vI v1, vI v2] [vR 175] _ _
      refine ex_pu (ls' := [vR 165, vI v1, vI v2]) (st' := [vI v2, vR 175]) (dg dc275 33 rfl) rfl rfl ?_
      refine ex_iald (dg dc275 34 rfl) (LOC.st (Nat.le_of_ble_eq_true rfl) rfl) rfl hf (fun _ hf => ?_)
      exact ex_ire (dg dc275 35 rfl) rfl hf
    · refine ex_pu (ls' := [vR 165, vI v1, vI v2]) (st' := [vI (-1)]) (dg dc275 29 rfl) rfl rfl ?_
      refine ex_goto (t := 63) (dg dc275 30 rfl) rfl rfl ?_
      exact ex_ire (dg dc275 35 rfl) rfl hf
  · refine ex_pu (ls' := [vR 165, vI v1, vI v2]) (st' := [vI 0]) (dg dc275 18 rfl) rfl rfl ?_
    exact ex_ire (dg dc275 19 rfl) rfl hf
def mo_far_J22   (v1 v2 : Int) (M : MM) : OR :=
  (mo_far_J27   v1 v2 1 M)
set_option maxRecDepth 4000 in
theorem mo_far_J22_ok {Z : Nat × (Nat → Int)} {d : Nat} (hd : 2 ≤ d)   {res : AR × MM}  : ∀ (v1 v2 : Int) (M : MM), mo_far_J22   v1 v2 M = some res → EX Z d 275 22 [vR 165, vI v1, vI v2] [vR 165] M res := by
  obtain ⟨e9, rfl⟩ : ∃ e9, d = e9 + 1 := ⟨d - 1, by omega⟩
  intro v1 v2 M hf
  unfold mo_far_J22 at hf
  refine ex_pu (ls' := [vR 165, vI v1, vI v2]) (st' := [vI 1, vR 165]) (dg dc275 12 rfl) rfl rfl ?_
  refine ex_goto (t := 27) (dg dc275 13 rfl) rfl rfl ?_
  exact mo_far_J27_ok hd   v1 v2 1 M hf
def mo_far (v1 : Int) (v2 : Int) (M : MM) : OR :=
  (sM (mU M 165 0 0) fun M_1 => (bI (mo_noPlace v1 M_1) fun z_5 M_4 => (bif cmpB .ne z_5 0 then (mo_far_J22   v1 v2 M_4) else (bI (mo_noPlace v2 M_4) fun z_14 M_13 => (bif cmpB .eq z_14 0 then (mo_far_J27   v1 v2 0 M_13) else (mo_far_J22   v1 v2 M_13))))))
set_option maxRecDepth 4000 in
theorem mo_far_ok {Z : Nat × (Nat → Int)} {d : Nat} (hd : 2 ≤ d) {M : MM}  {v1 v2 : Int} {res : AR × MM} (hf : mo_far v1 v2 M = some res) : EX Z d 275 0 (ent 275 [vR 165, vI v1, vI v2]) [] M res := by
  obtain ⟨e9, rfl⟩ : ∃ e9, d = e9 + 1 := ⟨d - 1, by omega⟩
  unfold mo_far at hf
  show EX Z _ 275 0 [vR 165, vI v1, vI v2] [] M res
  refine ex_pu (ls' := [vR 165, vI v1, vI v2]) (st' := [vR 165]) (dg dc275 0 rfl) rfl rfl ?_
  refine ex_pu (ls' := [vR 165, vI v1, vI v2]) (st' := [vI 0, vR 165]) (dg dc275 1 rfl) rfl rfl ?_
  refine ex_putI (dg dc275 2 rfl) rfl (LOC.st (Nat.le_of_ble_eq_true rfl) rfl) rfl rfl rfl ?_
  refine ex_gen hf (fun M_1 hM_2 hf => ?_)
  refine ex_pu (ls' := [vR 165, vI v1, vI v2]) (st' := [vR 165]) (dg dc275 3 rfl) rfl rfl ?_
  refine ex_pu (ls' := [vR 165, vI v1, vI v2]) (st' := [vR 165, vR 165]) (dg dc275 4 rfl) rfl rfl ?_
  refine ex_pu (ls' := [vR 165, vI v1, vI v2]) (st' := [vI v1, vR 165, vR 165]) (dg dc275 5 rfl) rfl rfl ?_
  refine ex_cI (vs := [vR 165, vI v1]) (st' := [vR 165]) (F := (mo_noPlace v1 M_1)) (Or.inr (Or.inl ⟨rfl, (dg dc275 6 rfl)⟩)) rfl rfl (rk1 (LOC.st (Nat.le_of_ble_eq_true rfl) rfl) rfl) rfl (fun _ r9 => mo_noPlace_ok (Z := Z) (d := e9) (by omega)  r9) hf (fun z_5 M_4 he_3 hf => ?_)
  refine ex_if (t := 22) (dg dc275 7 rfl) rfl hf (fun _ hf => ?_) (fun _ hf => ?_)
  · exact mo_far_J22_ok hd   v1 v2 M_4 hf
  · refine ex_pu (ls' := [vR 165, vI v1, vI v2]) (st' := [vR 165, vR 165]) (dg dc275 8 rfl) rfl rfl ?_
    refine ex_pu (ls' := [vR 165, vI v1, vI v2]) (st' := [vI v2, vR 165, vR 165]) (dg dc275 9 rfl) rfl rfl ?_
    refine ex_cI (vs := [vR 165, vI v2]) (st' := [vR 165]) (F := (mo_noPlace v2 M_4)) (Or.inr (Or.inl ⟨rfl, (dg dc275 10 rfl)⟩)) rfl rfl (rk1 (LOC.st (Nat.le_of_ble_eq_true rfl) rfl) rfl) rfl (fun _ r9 => mo_noPlace_ok (Z := Z) (d := e9) (by omega)  r9) hf (fun z_14 M_13 he_12 hf => ?_)
    refine ex_if (t := 26) (dg dc275 11 rfl) rfl hf (fun _ hf => ?_) (fun _ hf => ?_)
    · refine ex_pu (ls' := [vR 165, vI v1, vI v2]) (st' := [vI 0, vR 165]) (dg dc275 14 rfl) rfl rfl ?_
      exact mo_far_J27_ok hd   v1 v2 0 M_13 hf
    · exact mo_far_J22_ok hd   v1 v2 M_13 hf
-- GlassHillModel.turnBack
def il276 : List (Nat × Instr × Nat) := [(0, .aload_n 0, 1), (1, .iconst 0, 1), (2, .putfield 3, 3), (5, .aload_n 0, 1), (6, .iload_n 1, 1), (7, .iconst 0, 1), (8, .ldc_w 459, 3), (11, .invokestatic 80, 3), (14, .ifCond .ne 7, 3), (17, .iconst 1, 1), (18, .goto 4, 3), (21, .iconst 0, 1), (22, .iconst 1, 1), (23, .invokevirtual 274, 3), (26, .ifCond .ne 23, 3), (29, .aload_n 0, 1), (30, .aload_n 0, 1), (31, .invokevirtual 76, 3), (34, .ifCond .ne 7, 3), (37, .iconst 1, 1), (38, .goto 4, 3), (41, .iconst 0, 1), (42, .iconst 2, 1), (43, .invokevirtual 274, 3), (46, .ifCond .eq 5, 3), (49, .iconst 0, 1), (50, .ireturn, 1), (51, .aload_n 0, 1), (52, .aload_n 0, 1), (53, .getfield 13, 3), (56, .bipush 7, 2), (58, .iaload, 1), (59, .invokevirtual 465, 3), (62, .aload_n 0, 1), (63, .getfield 46, 3), (66, .iconst 0, 1), (67, .iaload, 1), (68, .ldc_w 459, 3), (71, .if_icmp .eq 21, 3), (74, .iload_n 1, 1), (75, .aload_n 0, 1), (76, .getfield 46, 3), (79, .iconst 0, 1), (80, .iaload, 1), (81, .isub, 1), (82, .aload_n 0, 1), (83, .getfield 13, 3), (86, .bipush 6, 2), (88, .iaload, 1), (89, .if_icmp .ge 7, 3), (92, .iconst (-1), 1), (93, .goto 11, 3), (96, .iload_n 1, 1), (97, .aload_n 0, 1), (98, .getfield 46, 3), (101, .iconst 0, 1), (102, .iaload, 1), (103, .isub, 1), (104, .ireturn, 1)]
theorem dc276 : dcs (mC 276) il276 := dc_of (by decide +kernel)
def mo_turnBack_J42   (v1 s0 : Int) (M : MM) : OR :=
  (bI (mo_throwsIf s0 2 M) fun z_14 M_13 => (bif cmpB .eq z_14 0 then (bif inB 7 1964 then (bV (mo_laysFar (M_13 166 7) M_13) fun M_16 => (bif inB 0 10 then (bif cmpB .eq (M_16 175 0) 100000 then some (rI (-1), M_16) else (bif inB 0 10 then (bif inB 6 1964 then (bif cmpB .ge (v1 - (M_16 175 0)) (M_16 166 6) then (bif inB 0 10 then some (rI (v1 - (M_16 175 0)), M_16) else none) else some (rI (-1), M_16)) else none) else none)) else none)) else none) else some (rI 0, M_13)))
set_option maxRecDepth 4000 in
theorem mo_turnBack_J42_ok {Z : Nat × (Nat → Int)} {d : Nat} (hd : 2 ≤ d)   {res : AR × MM}  : ∀ (v1 s0 : Int) (M : MM), mo_turnBack_J42   v1 s0 M = some res → EX Z d 276 42 [vR 165, vI v1] [vI s0, vR 165] M res := by
  obtain ⟨e9, rfl⟩ : ∃ e9, d = e9 + 1 := ⟨d - 1, by omega⟩
  intro v1 s0 M hf
  unfold mo_turnBack_J42 at hf
  refine ex_pu (ls' := [vR 165, vI v1]) (st' := [vI 2, vI s0, vR 165]) (dg dc276 22 rfl) rfl rfl ?_
  refine ex_cI (vs := [vR 165, vI s0, vI 2]) (st' := []) (F := (mo_throwsIf s0 2 M)) (Or.inr (Or.inl ⟨rfl, (dg dc276 23 rfl)⟩)) rfl rfl (rk1 (LOC.st (Nat.le_of_ble_eq_true rfl) rfl) rfl) rfl (fun _ r9 => mo_throwsIf_ok (Z := Z) (d := e9) (by omega)  r9) hf (fun z_14 M_13 he_12 hf => ?_)
  refine ex_if (t := 51) (dg dc276 24 rfl) rfl hf (fun _ hf => ?_) (fun _ hf => ?_)
  · refine ex_pu (ls' := [vR 165, vI v1]) (st' := [vR 165]) (dg dc276 27 rfl) rfl rfl ?_
    refine ex_pu (ls' := [vR 165, vI v1]) (st' := [vR 165, vR 165]) (dg dc276 28 rfl) rfl rfl ?_
    refine ex_getO (dg dc276 29 rfl) rfl (LOC.st (Nat.le_of_ble_eq_true rfl) rfl) rfl ?_
    show EX Z _ 276 _ [vR 165, vI v1] [vR 166, vR 165] _ _
    refine ex_pu (ls' := [vR 165, vI v1]) (st' := [vI 7, vR 166, vR 165]) (dg dc276 30 rfl) rfl rfl ?_
    refine ex_iald (dg dc276 31 rfl) (LOC.st (Nat.le_of_ble_eq_true rfl) rfl) rfl hf (fun _ hf => ?_)
    refine ex_cV (vs := [vR 165, vI (M_13 166 7)]) (st' := []) (F := (mo_laysFar (M_13 166 7) M_13)) (Or.inr (Or.inl ⟨rfl, (dg dc276 32 rfl)⟩)) rfl rfl (rk1 (LOC.st (Nat.le_of_ble_eq_true rfl) rfl) rfl) rfl (fun _ r9 => mo_laysFar_ok (Z := Z) (d := e9) (by omega)  r9) hf (fun M_16 he_15 hf => ?_)
    refine ex_pu (ls' := [vR 165, vI v1]) (st' := [vR 165]) (dg dc276 33 rfl) rfl rfl ?_
    refine ex_getO (dg dc276 34 rfl) rfl (LOC.st (Nat.le_of_ble_eq_true rfl) rfl) rfl ?_
    show EX Z _ 276 _ [vR 165, vI v1] [vR 175] _ _
    refine ex_pu (ls' := [vR 165, vI v1]) (st' := [vI 0, vR 175]) (dg dc276 35 rfl) rfl rfl ?_
    refine ex_iald (dg dc276 36 rfl) (LOC.st (Nat.le_of_ble_eq_true rfl) rfl) rfl hf (fun _ hf => ?_)
    refine ex_ldcW (dg dc276 37 rfl) rfl ?_
    refine ex_icmp (t := 92) (dg dc276 38 rfl) rfl hf (fun _ hf => ?_) (fun _ hf => ?_)
    · refine ex_pu (ls' := [vR 165, vI v1]) (st' := [vI (-1)]) (dg dc276 50 rfl) rfl rfl ?_
      refine ex_goto (t := 104) (dg dc276 51 rfl) rfl rfl ?_
      exact ex_ire (dg dc276 58 rfl) rfl hf
    · refine ex_pu (ls' := [vR 165, vI v1]) (st' := [vI v1]) (dg dc276 39 rfl) rfl rfl ?_
      refine ex_pu (ls' := [vR 165, vI v1]) (st' := [vR 165, vI v1]) (dg dc276 40 rfl) rfl rfl ?_
      refine ex_getO (dg dc276 41 rfl) rfl (LOC.st (Nat.le_of_ble_eq_true rfl) rfl) rfl ?_
      show EX Z _ 276 _ [vR 165, vI v1] [vR 175, vI v1] _ _
      refine ex_pu (ls' := [vR 165, vI v1]) (st' := [vI 0, vR 175, vI v1]) (dg dc276 42 rfl) rfl rfl ?_
      refine ex_iald (dg dc276 43 rfl) (LOC.st (Nat.le_of_ble_eq_true rfl) rfl) rfl hf (fun _ hf => ?_)
      refine ex_pu (ls' := [vR 165, vI v1]) (st' := [vI (v1 - (M_16 175 0))]) (dg dc276 44 rfl) rfl rfl ?_
      refine ex_pu (ls' := [vR 165, vI v1]) (st' := [vR 165, vI (v1 - (M_16 175 0))]) (dg dc276 45 rfl) rfl rfl ?_
      refine ex_getO (dg dc276 46 rfl) rfl (LOC.st (Nat.le_of_ble_eq_true rfl) rfl) rfl ?_
      show EX Z _ 276 _ [vR 165, vI v1] [vR 166, vI (v1 - (M_16 175 0))] _ _
      refine ex_pu (ls' := [vR 165, vI v1]) (st' := [vI 6, vR 166, vI (v1 - (M_16 175 0))]) (dg dc276 47 rfl) rfl rfl ?_
      refine ex_iald (dg dc276 48 rfl) (LOC.st (Nat.le_of_ble_eq_true rfl) rfl) rfl hf (fun _ hf => ?_)
      refine ex_icmp (t := 96) (dg dc276 49 rfl) rfl hf (fun _ hf => ?_) (fun _ hf => ?_)
      · refine ex_pu (ls' := [vR 165, vI v1]) (st' := [vI v1]) (dg dc276 52 rfl) rfl rfl ?_
        refine ex_pu (ls' := [vR 165, vI v1]) (st' := [vR 165, vI v1]) (dg dc276 53 rfl) rfl rfl ?_
        refine ex_getO (dg dc276 54 rfl) rfl (LOC.st (Nat.le_of_ble_eq_true rfl) rfl) rfl ?_
        show EX Z _ 276 _ [vR 165, vI v1] [vR 175, vI v1] _ _
        refine ex_pu (ls' := [vR 165, vI v1]) (st' := [vI 0, vR 175, vI v1]) (dg dc276 55 rfl) rfl rfl ?_
        refine ex_iald (dg dc276 56 rfl) (LOC.st (Nat.le_of_ble_eq_true rfl) rfl) rfl hf (fun _ hf => ?_)
        refine ex_pu (ls' := [vR 165, vI v1]) (st' := [vI (v1 - (M_16 175 0))]) (dg dc276 57 rfl) rfl rfl ?_
        exact ex_ire (dg dc276 58 rfl) rfl hf
      · refine ex_pu (ls' := [vR 165, vI v1]) (st' := [vI (-1)]) (dg dc276 50 rfl) rfl rfl ?_
        refine ex_goto (t := 104) (dg dc276 51 rfl) rfl rfl ?_
        exact ex_ire (dg dc276 58 rfl) rfl hf
  · refine ex_pu (ls' := [vR 165, vI v1]) (st' := [vI 0]) (dg dc276 25 rfl) rfl rfl ?_
    exact ex_ire (dg dc276 26 rfl) rfl hf
def mo_turnBack_J22   (v1 s0 : Int) (M : MM) : OR :=
  (bI (mo_throwsIf s0 1 M) fun z_8 M_7 => (bif cmpB .ne z_8 0 then some (rI 0, M_7) else (bI (mo_places  M_7) fun z_11 M_10 => (bif cmpB .ne z_11 0 then (mo_turnBack_J42   v1 0 M_10) else (mo_turnBack_J42   v1 1 M_10)))))
set_option maxRecDepth 4000 in
theorem mo_turnBack_J22_ok {Z : Nat × (Nat → Int)} {d : Nat} (hd : 2 ≤ d)   {res : AR × MM}  : ∀ (v1 s0 : Int) (M : MM), mo_turnBack_J22   v1 s0 M = some res → EX Z d 276 22 [vR 165, vI v1] [vI s0, vR 165] M res := by
  obtain ⟨e9, rfl⟩ : ∃ e9, d = e9 + 1 := ⟨d - 1, by omega⟩
  intro v1 s0 M hf
  unfold mo_turnBack_J22 at hf
  refine ex_pu (ls' := [vR 165, vI v1]) (st' := [vI 1, vI s0, vR 165]) (dg dc276 12 rfl) rfl rfl ?_
  refine ex_cI (vs := [vR 165, vI s0, vI 1]) (st' := []) (F := (mo_throwsIf s0 1 M)) (Or.inr (Or.inl ⟨rfl, (dg dc276 13 rfl)⟩)) rfl rfl (rk1 (LOC.st (Nat.le_of_ble_eq_true rfl) rfl) rfl) rfl (fun _ r9 => mo_throwsIf_ok (Z := Z) (d := e9) (by omega)  r9) hf (fun z_8 M_7 he_6 hf => ?_)
  refine ex_if (t := 49) (dg dc276 14 rfl) rfl hf (fun _ hf => ?_) (fun _ hf => ?_)
  · refine ex_pu (ls' := [vR 165, vI v1]) (st' := [vI 0]) (dg dc276 25 rfl) rfl rfl ?_
    exact ex_ire (dg dc276 26 rfl) rfl hf
  · refine ex_pu (ls' := [vR 165, vI v1]) (st' := [vR 165]) (dg dc276 15 rfl) rfl rfl ?_
    refine ex_pu (ls' := [vR 165, vI v1]) (st' := [vR 165, vR 165]) (dg dc276 16 rfl) rfl rfl ?_
    refine ex_cI (vs := [vR 165]) (st' := [vR 165]) (F := (mo_places  M_7)) (Or.inr (Or.inl ⟨rfl, (dg dc276 17 rfl)⟩)) rfl rfl (rk1 (LOC.st (Nat.le_of_ble_eq_true rfl) rfl) rfl) rfl (fun _ r9 => mo_places_ok (Z := Z) (d := e9) (by omega)  r9) hf (fun z_11 M_10 he_9 hf => ?_)
    refine ex_if (t := 41) (dg dc276 18 rfl) rfl hf (fun _ hf => ?_) (fun _ hf => ?_)
    · refine ex_pu (ls' := [vR 165, vI v1]) (st' := [vI 0, vR 165]) (dg dc276 21 rfl) rfl rfl ?_
      exact mo_turnBack_J42_ok hd   v1 0 M_10 hf
    · refine ex_pu (ls' := [vR 165, vI v1]) (st' := [vI 1, vR 165]) (dg dc276 19 rfl) rfl rfl ?_
      refine ex_goto (t := 42) (dg dc276 20 rfl) rfl rfl ?_
      exact mo_turnBack_J42_ok hd   v1 1 M_10 hf
def mo_turnBack (v1 : Int) (M : MM) : OR :=
  (sM (mU M 165 0 0) fun M_1 => (bI (mo_in v1 0 100000 M_1) fun z_5 M_4 => (bif cmpB .ne z_5 0 then (mo_turnBack_J22   v1 0 M_4) else (mo_turnBack_J22   v1 1 M_4))))
set_option maxRecDepth 4000 in
theorem mo_turnBack_ok {Z : Nat × (Nat → Int)} {d : Nat} (hd : 2 ≤ d) {M : MM}  {v1 : Int} {res : AR × MM} (hf : mo_turnBack v1 M = some res) : EX Z d 276 0 (ent 276 [vR 165, vI v1]) [] M res := by
  obtain ⟨e9, rfl⟩ : ∃ e9, d = e9 + 1 := ⟨d - 1, by omega⟩
  unfold mo_turnBack at hf
  show EX Z _ 276 0 [vR 165, vI v1] [] M res
  refine ex_pu (ls' := [vR 165, vI v1]) (st' := [vR 165]) (dg dc276 0 rfl) rfl rfl ?_
  refine ex_pu (ls' := [vR 165, vI v1]) (st' := [vI 0, vR 165]) (dg dc276 1 rfl) rfl rfl ?_
  refine ex_putI (dg dc276 2 rfl) rfl (LOC.st (Nat.le_of_ble_eq_true rfl) rfl) rfl rfl rfl ?_
  refine ex_gen hf (fun M_1 hM_2 hf => ?_)
  refine ex_pu (ls' := [vR 165, vI v1]) (st' := [vR 165]) (dg dc276 3 rfl) rfl rfl ?_
  refine ex_pu (ls' := [vR 165, vI v1]) (st' := [vI v1, vR 165]) (dg dc276 4 rfl) rfl rfl ?_
  refine ex_pu (ls' := [vR 165, vI v1]) (st' := [vI 0, vI v1, vR 165]) (dg dc276 5 rfl) rfl rfl ?_
  refine ex_ldcW (dg dc276 6 rfl) rfl ?_
  refine ex_cI (vs := [vI v1, vI 0, vI 100000]) (st' := [vR 165]) (F := (mo_in v1 0 100000 M_1)) (Or.inl ⟨rfl, (dg dc276 7 rfl)⟩) rfl rfl (Or.inl rfl) rfl (fun _ r9 => mo_in_ok (Z := Z) (d := e9) (by omega)  r9) hf (fun z_5 M_4 he_3 hf => ?_)
  refine ex_if (t := 21) (dg dc276 8 rfl) rfl hf (fun _ hf => ?_) (fun _ hf => ?_)
  · refine ex_pu (ls' := [vR 165, vI v1]) (st' := [vI 0, vR 165]) (dg dc276 11 rfl) rfl rfl ?_
    exact mo_turnBack_J22_ok hd   v1 0 M_4 hf
  · refine ex_pu (ls' := [vR 165, vI v1]) (st' := [vI 1, vR 165]) (dg dc276 9 rfl) rfl rfl ?_
    refine ex_goto (t := 22) (dg dc276 10 rfl) rfl rfl ?_
    exact mo_turnBack_J22_ok hd   v1 1 M_4 hf
-- GlassHillModel.meet
def il277 : List (Nat × Instr × Nat) := [(0, .aload_n 0, 1), (1, .iconst 0, 1), (2, .putfield 3, 3), (5, .aload_n 0, 1), (6, .aload_n 0, 1), (7, .iload_n 1, 1), (8, .invokevirtual 393, 3), (11, .ifCond .ne 11, 3), (14, .aload_n 0, 1), (15, .iload_n 2, 1), (16, .invokevirtual 393, 3), (19, .ifCond .eq 7, 3), (22, .iconst 1, 1), (23, .goto 4, 3), (26, .iconst 0, 1), (27, .iconst 1, 1), (28, .invokevirtual 274, 3), (31, .ifCond .eq 5, 3), (34, .iconst 0, 1), (35, .ireturn, 1), (36, .aload_n 0, 1), (37, .iload_n 1, 1), (38, .invokevirtual 465, 3), (41, .iconst 0, 1), (42, .istore 4, 2), (44, .iload 4, 2), (46, .bipush 10, 2), (48, .if_icmp .ge 23, 3), (51, .aload_n 0, 1), (52, .getfield 49, 3), (55, .iload 4, 2), (57, .aload_n 0, 1), (58, .getfield 46, 3), (61, .iload 4, 2), (63, .iaload, 1), (64, .iastore, 1), (65, .iinc 4 1, 3), (68, .goto (-24), 3), (71, .aload_n 0, 1), (72, .iload_n 2, 1), (73, .invokevirtual 465, 3), (76, .iconst (-1), 1), (77, .istore 4, 2), (79, .ldc_w 459, 3), (82, .istore 5, 2), (84, .iconst 0, 1), (85, .istore 6, 2), (87, .iload 6, 2), (89, .aload_n 0, 1), (90, .invokevirtual 76, 3), (93, .if_icmp .ge 46, 3), (96, .aload_n 0, 1), (97, .getfield 46, 3), (100, .iload 6, 2), (102, .iaload, 1), (103, .aload_n 0, 1), (104, .getfield 49, 3), (107, .iload 6, 2), (109, .iaload, 1), (110, .invokestatic 469, 3), (113, .istore 7, 2), (115, .iload 7, 2), (117, .iload 5, 2), (119, .if_icmp .lt 6, 3), (122, .goto 11, 3), (125, .iload 6, 2), (127, .istore 4, 2), (129, .iload 7, 2), (131, .istore 5, 2), (133, .iinc 6 1, 3), (136, .goto (-49), 3), (139, .iload_n 3, 1), (140, .ifCond .ne 8, 3), (143, .iload 4, 2), (145, .ifCond .ge 8, 3), (148, .iload 4, 2), (150, .goto 5, 3), (153, .iload 5, 2), (155, .ireturn, 1)]
theorem dc277 : dcs (mC 277) il277 := dc_of (by decide +kernel)
def mo_meet_L44  (v2 v3 : Int) (K1 : MM → OR) : Nat → Int → MM → OR
  | 0, _, _ => none
  | n + 1, v4, M => (bif cmpB .ge v4 10 then (K1  M) else (bif inB v4 10 then (bif inB v4 10 then (sM (mU M 176 (v4).toNat (M 175 (v4).toNat)) fun M_12 => (mo_meet_L44 v2 v3 K1 n (v4 + 1) M_12)) else none) else none))
set_option maxRecDepth 4000 in
theorem mo_meet_L44_ok {Z : Nat × (Nat → Int)} {d : Nat} (hd : 2 ≤ d)  {v2 v3 : Int} {K1 : MM → OR} {res : AR × MM} (k1 : ∀ (M : MM) (j1 j4 j5 j6 j7 : AV), K1  M = some res → EX Z d 277 71 [vR 165, j1, vI v2, vI v3, j4, j5, j6, j7] [] M res) : ∀ (n : Nat) (v4 : Int) (M : MM) (j1 j5 j6 j7 : AV), mo_meet_L44 v2 v3 K1 n v4 M = some res → EX Z d 277 44 [vR 165, j1, vI v2, vI v3, vI v4, j5, j6, j7] [] M res := by
  obtain ⟨e9, rfl⟩ : ∃ e9, d = e9 + 1 := ⟨d - 1, by omega⟩
  intro n
  induction n with
  | zero =>
    intro v4 M j1 j5 j6 j7 hf
    unfold mo_meet_L44 at hf
    cases hf
  | succ n ih =>
    intro v4 M j1 j5 j6 j7 hf
    unfold mo_meet_L44 at hf
    refine ex_pu (ls' := [vR 165, j1, vI v2, vI v3, vI v4, j5, j6, j7]) (st' := [vI v4]) (dg dc277 25 rfl) rfl rfl ?_
    refine ex_pu (ls' := [vR 165, j1, vI v2, vI v3, vI v4, j5, j6, j7]) (st' := [vI 10, vI v4]) (dg dc277 26 rfl) rfl rfl ?_
    refine ex_icmp (t := 71) (dg dc277 27 rfl) rfl hf (fun _ hf => ?_) (fun _ hf => ?_)
    · exact k1  M _ _ _ _ _ hf
    · refine ex_pu (ls' := [vR 165, j1, vI v2, vI v3, vI v4, j5, j6, j7]) (st' := [vR 165]) (dg dc277 28 rfl) rfl rfl ?_
      refine ex_getO (dg dc277 29 rfl) rfl (LOC.st (Nat.le_of_ble_eq_true rfl) rfl) rfl ?_
      show EX Z _ 277 _ [vR 165, j1, vI v2, vI v3, vI v4, j5, j6, j7] [vR 176] _ _
      refine ex_pu (ls' := [vR 165, j1, vI v2, vI v3, vI v4, j5, j6, j7]) (st' := [vI v4, vR 176]) (dg dc277 30 rfl) rfl rfl ?_
      refine ex_pu (ls' := [vR 165, j1, vI v2, vI v3, vI v4, j5, j6, j7]) (st' := [vR 165, vI v4, vR 176]) (dg dc277 31 rfl) rfl rfl ?_
      refine ex_getO (dg dc277 32 rfl) rfl (LOC.st (Nat.le_of_ble_eq_true rfl) rfl) rfl ?_
      show EX Z _ 277 _ [vR 165, j1, vI v2, vI v3, vI v4, j5, j6, j7] [vR 175, vI v4, vR 176] _ _
      refine ex_pu (ls' := [vR 165, j1, vI v2, vI v3, vI v4, j5, j6, j7]) (st' := [vI v4, vR 175, vI v4, vR 176]) (dg dc277 33 rfl) rfl rfl ?_
      refine ex_iald (dg dc277 34 rfl) (LOC.st (Nat.le_of_ble_eq_true rfl) rfl) rfl hf (fun _ hf => ?_)
      refine ex_iast (dg dc277 35 rfl) (LOC.st (Nat.le_of_ble_eq_true rfl) rfl) rfl rfl hf (fun _ hf => ?_)
      refine ex_gen hf (fun M_12 hM_13 hf => ?_)
      refine ex_pu (ls' := [vR 165, j1, vI v2, vI v3, vI (v4 + 1), j5, j6, j7]) (st' := []) (dg dc277 36 rfl) rfl rfl ?_
      refine ex_goto (t := 44) (dg dc277 37 rfl) rfl rfl ?_
      exact ih (v4 + 1) M_12 _ _ _ _ hf
def mo_meet_L87  (v3 : Int) (K1 : Int → Int → MM → OR) : Nat → Int → Int → Int → MM → OR
  | 0, _, _, _, _ => none
  | n + 1, v4, v5, v6, M => (bI (mo_places  M) fun z_25 M_24 => (bif cmpB .ge v6 z_25 then (K1 v4 v5 M_24) else (bif inB v6 10 then (bif inB v6 10 then (bif cmpB .lt (imax (M_24 175 (v6).toNat) (M_24 176 (v6).toNat)) v5 then (mo_meet_L87 v3 K1 n v6 (imax (M_24 175 (v6).toNat) (M_24 176 (v6).toNat)) (v6 + 1) M_24) else (mo_meet_L87 v3 K1 n v4 v5 (v6 + 1) M_24)) else none) else none)))
set_option maxRecDepth 4000 in
theorem mo_meet_L87_ok {Z : Nat × (Nat → Int)} {d : Nat} (hd : 2 ≤ d)  {v3 : Int} {K1 : Int → Int → MM → OR} {res : AR × MM} (k1 : ∀ (x4 x5 : Int) (M : MM) (j0 j1 j2 j6 j7 : AV), K1 x4 x5 M = some res → EX Z d 277 139 [j0, j1, j2, vI v3, vI x4, vI x5, j6, j7] [] M res) : ∀ (n : Nat) (v4 v5 v6 : Int) (M : MM) (j1 j2 j7 : AV), mo_meet_L87 v3 K1 n v4 v5 v6 M = some res → EX Z d 277 87 [vR 165, j1, j2, vI v3, vI v4, vI v5, vI v6, j7] [] M res := by
  obtain ⟨e9, rfl⟩ : ∃ e9, d = e9 + 1 := ⟨d - 1, by omega⟩
  intro n
  induction n with
  | zero =>
    intro v4 v5 v6 M j1 j2 j7 hf
    unfold mo_meet_L87 at hf
    cases hf
  | succ n ih =>
    intro v4 v5 v6 M j1 j2 j7 hf
    unfold mo_meet_L87 at hf
    refine ex_pu (ls' := [vR 165, j1, j2, vI v3, vI v4, vI v5, vI v6, j7]) (st' := [vI v6]) (dg dc277 47 rfl) rfl rfl ?_
    refine ex_pu (ls' := [vR 165, j1, j2, vI v3, vI v4, vI v5, vI v6, j7]) (st' := [vR 165, vI v6]) (dg dc277 48 rfl) rfl rfl ?_
    refine ex_cI (vs := [vR 165]) (st' := [vI v6]) (F := (mo_places  M)) (Or.inr (Or.inl ⟨rfl, (dg dc277 49 rfl)⟩)) rfl rfl (rk1 (LOC.st (Nat.le_of_ble_eq_true rfl) rfl) rfl) rfl (fun _ r9 => mo_places_ok (Z := Z) (d := e9) (by omega)  r9) hf (fun z_25 M_24 he_23 hf => ?_)
    refine ex_icmp (t := 139) (dg dc277 50 rfl) rfl hf (fun _ hf => ?_) (fun _ hf => ?_)
    · exact k1 v4 v5 M_24 _ _ _ _ _ hf
    · refine ex_pu (ls' := [vR 165, j1, j2, vI v3, vI v4, vI v5, vI v6, j7]) (st' := [vR 165]) (dg dc277 51 rfl) rfl rfl ?_
      refine ex_getO (dg dc277 52 rfl) rfl (LOC.st (Nat.le_of_ble_eq_true rfl) rfl) rfl ?_
      show EX Z _ 277 _ [vR 165, j1, j2, vI v3, vI v4, vI v5, vI v6, j7] [vR 175] _ _
      refine ex_pu (ls' := [vR 165, j1, j2, vI v3, vI v4, vI v5, vI v6, j7]) (st' := [vI v6, vR 175]) (dg dc277 53 rfl) rfl rfl ?_
      refine ex_iald (dg dc277 54 rfl) (LOC.st (Nat.le_of_ble_eq_true rfl) rfl) rfl hf (fun _ hf => ?_)
      refine ex_pu (ls' := [vR 165, j1, j2, vI v3, vI v4, vI v5, vI v6, j7]) (st' := [vR 165, vI (M_24 175 (v6).toNat)]) (dg dc277 55 rfl) rfl rfl ?_
      refine ex_getO (dg dc277 56 rfl) rfl (LOC.st (Nat.le_of_ble_eq_true rfl) rfl) rfl ?_
      show EX Z _ 277 _ [vR 165, j1, j2, vI v3, vI v4, vI v5, vI v6, j7] [vR 176, vI (M_24 175 (v6).toNat)] _ _
      refine ex_pu (ls' := [vR 165, j1, j2, vI v3, vI v4, vI v5, vI v6, j7]) (st' := [vI v6, vR 176, vI (M_24 175 (v6).toNat)]) (dg dc277 57 rfl) rfl rfl ?_
      refine ex_iald (dg dc277 58 rfl) (LOC.st (Nat.le_of_ble_eq_true rfl) rfl) rfl hf (fun _ hf => ?_)
      refine ex_max (dg dc277 59 rfl) rfl rfl ?_
      refine ex_pu (ls' := [vR 165, j1, j2, vI v3, vI v4, vI v5, vI v6, vI (imax (M_24 175 (v6).toNat) (M_24 176 (v6).toNat))]) (st' := []) (dg dc277 60 rfl) rfl rfl ?_
      refine ex_pu (ls' := [vR 165, j1, j2, vI v3, vI v4, vI v5, vI v6, vI (imax (M_24 175 (v6).toNat) (M_24 176 (v6).toNat))]) (st' := [vI (imax (M_24 175 (v6).toNat) (M_24 176 (v6).toNat))]) (dg dc277 61 rfl) rfl rfl ?_
      refine ex_pu (ls' := [vR 165, j1, j2, vI v3, vI v4, vI v5, vI v6, vI (imax (M_24 175 (v6).toNat) (M_24 176 (v6).toNat))]) (st' := [vI v5, vI (imax (M_24 175 (v6).toNat) (M_24 176 (v6).toNat))]) (dg dc277 62 rfl) rfl rfl ?_
      refine ex_icmp (t := 125) (dg dc277 63 rfl) rfl hf (fun _ hf => ?_) (fun _ hf => ?_)
      · refine ex_pu (ls' := [vR 165, j1, j2, vI v3, vI v4, vI v5, vI v6, vI (imax (M_24 175 (v6).toNat) (M_24 176 (v6).toNat))]) (st' := [vI v6]) (dg dc277 65 rfl) rfl rfl ?_
        refine ex_pu (ls' := [vR 165, j1, j2, vI v3, vI v6, vI v5, vI v6, vI (imax (M_24 175 (v6).toNat) (M_24 176 (v6).toNat))]) (st' := []) (dg dc277 66 rfl) rfl rfl ?_
        refine ex_pu (ls' := [vR 165, j1, j2, vI v3, vI v6, vI v5, vI v6, vI (imax (M_24 175 (v6).toNat) (M_24 176 (v6).toNat))]) (st' := [vI (imax (M_24 175 (v6).toNat) (M_24 176 (v6).toNat))]) (dg dc277 67 rfl) rfl rfl ?_
        refine ex_pu (ls' := [vR 165, j1, j2, vI v3, vI v6, vI (imax (M_24 175 (v6).toNat) (M_24 176 (v6).toNat)), vI v6, vI (imax (M_24 175 (v6).toNat) (M_24 176 (v6).toNat))]) (st' := []) (dg dc277 68 rfl) rfl rfl ?_
        refine ex_pu (ls' := [vR 165, j1, j2, vI v3, vI v6, vI (imax (M_24 175 (v6).toNat) (M_24 176 (v6).toNat)), vI (v6 + 1), vI (imax (M_24 175 (v6).toNat) (M_24 176 (v6).toNat))]) (st' := []) (dg dc277 69 rfl) rfl rfl ?_
        refine ex_goto (t := 87) (dg dc277 70 rfl) rfl rfl ?_
        exact ih v6 (imax (M_24 175 (v6).toNat) (M_24 176 (v6).toNat)) (v6 + 1) M_24 _ _ _ hf
      · refine ex_goto (t := 133) (dg dc277 64 rfl) rfl rfl ?_
        refine ex_pu (ls' := [vR 165, j1, j2, vI v3, vI v4, vI v5, vI (v6 + 1), vI (imax (M_24 175 (v6).toNat) (M_24 176 (v6).toNat))]) (st' := []) (dg dc277 69 rfl) rfl rfl ?_
        refine ex_goto (t := 87) (dg dc277 70 rfl) rfl rfl ?_
        exact ih v4 v5 (v6 + 1) M_24 _ _ _ hf
def mo_meet_J27   (v1 v2 v3 s0 : Int) (M : MM) : OR :=
  (bI (mo_throwsIf s0 1 M) fun z_8 M_7 => (bif cmpB .eq z_8 0 then (bV (mo_laysFar v1 M_7) fun M_10 => (mo_meet_L44 v2 v3 (fun M_14 => (bV (mo_laysFar v2 M_14) fun M_21 => (mo_meet_L87 v3 (fun v4_26 v5_27 M_28 => (bif cmpB .ne v3 0 then some (rI v4_26, M_28) else (bif cmpB .ge v4_26 0 then some (rI v5_27, M_28) else some (rI v4_26, M_28)))) FU (-1) 100000 0 M_21))) FU 0 M_10)) else some (rI 0, M_7)))
set_option maxRecDepth 4000 in
theorem mo_meet_J27_ok {Z : Nat × (Nat → Int)} {d : Nat} (hd : 2 ≤ d)   {res : AR × MM}  : ∀ (v1 v2 v3 s0 : Int) (M : MM) (j4 j5 j6 j7 : AV), mo_meet_J27   v1 v2 v3 s0 M = some res → EX Z d 277 27 [vR 165, vI v1, vI v2, vI v3, j4, j5, j6, j7] [vI s0, vR 165] M res := by
  obtain ⟨e9, rfl⟩ : ∃ e9, d = e9 + 1 := ⟨d - 1, by omega⟩
  intro v1 v2 v3 s0 M j4 j5 j6 j7 hf
  unfold mo_meet_J27 at hf
  refine ex_pu (ls' := [vR 165, vI v1, vI v2, vI v3, j4, j5, j6, j7]) (st' := [vI 1, vI s0, vR 165]) (dg dc277 15 rfl) rfl rfl ?_
  refine ex_cI (vs := [vR 165, vI s0, vI 1]) (st' := []) (F := (mo_throwsIf s0 1 M)) (Or.inr (Or.inl ⟨rfl, (dg dc277 16 rfl)⟩)) rfl rfl (rk1 (LOC.st (Nat.le_of_ble_eq_true rfl) rfl) rfl) rfl (fun _ r9 => mo_throwsIf_ok (Z := Z) (d := e9) (by omega)  r9) hf (fun z_8 M_7 he_6 hf => ?_)
  refine ex_if (t := 36) (dg dc277 17 rfl) rfl hf (fun _ hf => ?_) (fun _ hf => ?_)
  · refine ex_pu (ls' := [vR 165, vI v1, vI v2, vI v3, j4, j5, j6, j7]) (st' := [vR 165]) (dg dc277 20 rfl) rfl rfl ?_
    refine ex_pu (ls' := [vR 165, vI v1, vI v2, vI v3, j4, j5, j6, j7]) (st' := [vI v1, vR 165]) (dg dc277 21 rfl) rfl rfl ?_
    refine ex_cV (vs := [vR 165, vI v1]) (st' := []) (F := (mo_laysFar v1 M_7)) (Or.inr (Or.inl ⟨rfl, (dg dc277 22 rfl)⟩)) rfl rfl (rk1 (LOC.st (Nat.le_of_ble_eq_true rfl) rfl) rfl) rfl (fun _ r9 => mo_laysFar_ok (Z := Z) (d := e9) (by omega)  r9) hf (fun M_10 he_9 hf => ?_)
    refine ex_pu (ls' := [vR 165, vI v1, vI v2, vI v3, j4, j5, j6, j7]) (st' := [vI 0]) (dg dc277 23 rfl) rfl rfl ?_
    refine ex_pu (ls' := [vR 165, vI v1, vI v2, vI v3, vI 0, j5, j6, j7]) (st' := []) (dg dc277 24 rfl) rfl rfl ?_
    refine mo_meet_L44_ok hd  ?_ FU 0 M_10 _ _ _ _ hf
    · intro M_14 j1_15 j4_16 j5_17 j6_18 j7_19 hf
      refine ex_pu (ls' := [vR 165, j1_15, vI v2, vI v3, j4_16, j5_17, j6_18, j7_19]) (st' := [vR 165]) (dg dc277 38 rfl) rfl rfl ?_
      refine ex_pu (ls' := [vR 165, j1_15, vI v2, vI v3, j4_16, j5_17, j6_18, j7_19]) (st' := [vI v2, vR 165]) (dg dc277 39 rfl) rfl rfl ?_
      refine ex_cV (vs := [vR 165, vI v2]) (st' := []) (F := (mo_laysFar v2 M_14)) (Or.inr (Or.inl ⟨rfl, (dg dc277 40 rfl)⟩)) rfl rfl (rk1 (LOC.st (Nat.le_of_ble_eq_true rfl) rfl) rfl) rfl (fun _ r9 => mo_laysFar_ok (Z := Z) (d := e9) (by omega)  r9) hf (fun M_21 he_20 hf => ?_)
      refine ex_pu (ls' := [vR 165, j1_15, vI v2, vI v3, j4_16, j5_17, j6_18, j7_19]) (st' := [vI (-1)]) (dg dc277 41 rfl) rfl rfl ?_
      refine ex_pu (ls' := [vR 165, j1_15, vI v2, vI v3, vI (-1), j5_17, j6_18, j7_19]) (st' := []) (dg dc277 42 rfl) rfl rfl ?_
      refine ex_ldcW (dg dc277 43 rfl) rfl ?_
      refine ex_pu (ls' := [vR 165, j1_15, vI v2, vI v3, vI (-1), vI 100000, j6_18, j7_19]) (st' := []) (dg dc277 44 rfl) rfl rfl ?_
      refine ex_pu (ls' := [vR 165, j1_15, vI v2, vI v3, vI (-1), vI 100000, j6_18, j7_19]) (st' := [vI 0]) (dg dc277 45 rfl) rfl rfl ?_
      refine ex_pu (ls' := [vR 165, j1_15, vI v2, vI v3, vI (-1), vI 100000, vI 0, j7_19]) (st' := []) (dg dc277 46 rfl) rfl rfl ?_
      refine mo_meet_L87_ok hd  ?_ FU (-1) 100000 0 M_21 _ _ _ hf
      · intro v4_26 v5_27 M_28 j0_29 j1_30 j2_31 j6_32 j7_33 hf
        refine ex_pu (ls' := [j0_29, j1_30, j2_31, vI v3, vI v4_26, vI v5_27, j6_32, j7_33]) (st' := [vI v3]) (dg dc277 71 rfl) rfl rfl ?_
        refine ex_if (t := 148) (dg dc277 72 rfl) rfl hf (fun _ hf => ?_) (fun _ hf => ?_)
        · refine ex_pu (ls' := [j0_29, j1_30, j2_31, vI v3, vI v4_26, vI v5_27, j6_32, j7_33]) (st' := [vI v4_26]) (dg dc277 75 rfl) rfl rfl ?_
          refine ex_goto (t := 155) (dg dc277 76 rfl) rfl rfl ?_
          exact ex_ire (dg dc277 78 rfl) rfl hf
        · refine ex_pu (ls' := [j0_29, j1_30, j2_31, vI v3, vI v4_26, vI v5_27, j6_32, j7_33]) (st' := [vI v4_26]) (dg dc277 73 rfl) rfl rfl ?_
          refine ex_if (t := 153) (dg dc277 74 rfl) rfl hf (fun _ hf => ?_) (fun _ hf => ?_)
          · refine ex_pu (ls' := [j0_29, j1_30, j2_31, vI v3, vI v4_26, vI v5_27, j6_32, j7_33]) (st' := [vI v5_27]) (dg dc277 77 rfl) rfl rfl ?_
            exact ex_ire (dg dc277 78 rfl) rfl hf
          · refine ex_pu (ls' := [j0_29, j1_30, j2_31, vI v3, vI v4_26, vI v5_27, j6_32, j7_33]) (st' := [vI v4_26]) (dg dc277 75 rfl) rfl rfl ?_
            refine ex_goto (t := 155) (dg dc277 76 rfl) rfl rfl ?_
            exact ex_ire (dg dc277 78 rfl) rfl hf
  · refine ex_pu (ls' := [vR 165, vI v1, vI v2, vI v3, j4, j5, j6, j7]) (st' := [vI 0]) (dg dc277 18 rfl) rfl rfl ?_
    exact ex_ire (dg dc277 19 rfl) rfl hf
def mo_meet_J22   (v1 v2 v3 : Int) (M : MM) : OR :=
  (mo_meet_J27   v1 v2 v3 1 M)
set_option maxRecDepth 4000 in
theorem mo_meet_J22_ok {Z : Nat × (Nat → Int)} {d : Nat} (hd : 2 ≤ d)   {res : AR × MM}  : ∀ (v1 v2 v3 : Int) (M : MM) (j4 j5 j6 j7 : AV), mo_meet_J22   v1 v2 v3 M = some res → EX Z d 277 22 [vR 165, vI v1, vI v2, vI v3, j4, j5, j6, j7] [vR 165] M res := by
  obtain ⟨e9, rfl⟩ : ∃ e9, d = e9 + 1 := ⟨d - 1, by omega⟩
  intro v1 v2 v3 M j4 j5 j6 j7 hf
  unfold mo_meet_J22 at hf
  refine ex_pu (ls' := [vR 165, vI v1, vI v2, vI v3, j4, j5, j6, j7]) (st' := [vI 1, vR 165]) (dg dc277 12 rfl) rfl rfl ?_
  refine ex_goto (t := 27) (dg dc277 13 rfl) rfl rfl ?_
  exact mo_meet_J27_ok hd   v1 v2 v3 1 M _ _ _ _ hf
def mo_meet (v1 : Int) (v2 : Int) (v3 : Int) (M : MM) : OR :=
  (sM (mU M 165 0 0) fun M_1 => (bI (mo_noPlace v1 M_1) fun z_5 M_4 => (bif cmpB .ne z_5 0 then (mo_meet_J22   v1 v2 v3 M_4) else (bI (mo_noPlace v2 M_4) fun z_36 M_35 => (bif cmpB .eq z_36 0 then (mo_meet_J27   v1 v2 v3 0 M_35) else (mo_meet_J22   v1 v2 v3 M_35))))))
set_option maxRecDepth 4000 in
theorem mo_meet_ok {Z : Nat × (Nat → Int)} {d : Nat} (hd : 2 ≤ d) {M : MM}  {v1 v2 v3 : Int} {res : AR × MM} (hf : mo_meet v1 v2 v3 M = some res) : EX Z d 277 0 (ent 277 [vR 165, vI v1, vI v2, vI v3]) [] M res := by
  obtain ⟨e9, rfl⟩ : ∃ e9, d = e9 + 1 := ⟨d - 1, by omega⟩
  unfold mo_meet at hf
  show EX Z _ 277 0 [vR 165, vI v1, vI v2, vI v3, vU, vU, vU, vU] [] M res
  refine ex_pu (ls' := [vR 165, vI v1, vI v2, vI v3, vU, vU, vU, vU]) (st' := [vR 165]) (dg dc277 0 rfl) rfl rfl ?_
  refine ex_pu (ls' := [vR 165, vI v1, vI v2, vI v3, vU, vU, vU, vU]) (st' := [vI 0, vR 165]) (dg dc277 1 rfl) rfl rfl ?_
  refine ex_putI (dg dc277 2 rfl) rfl (LOC.st (Nat.le_of_ble_eq_true rfl) rfl) rfl rfl rfl ?_
  refine ex_gen hf (fun M_1 hM_2 hf => ?_)
  refine ex_pu (ls' := [vR 165, vI v1, vI v2, vI v3, vU, vU, vU, vU]) (st' := [vR 165]) (dg dc277 3 rfl) rfl rfl ?_
  refine ex_pu (ls' := [vR 165, vI v1, vI v2, vI v3, vU, vU, vU, vU]) (st' := [vR 165, vR 165]) (dg dc277 4 rfl) rfl rfl ?_
  refine ex_pu (ls' := [vR 165, vI v1, vI v2, vI v3, vU, vU, vU, vU]) (st' := [vI v1, vR 165, vR 165]) (dg dc277 5 rfl) rfl rfl ?_
  refine ex_cI (vs := [vR 165, vI v1]) (st' := [vR 165]) (F := (mo_noPlace v1 M_1)) (Or.inr (Or.inl ⟨rfl, (dg dc277 6 rfl)⟩)) rfl rfl (rk1 (LOC.st (Nat.le_of_ble_eq_true rfl) rfl) rfl) rfl (fun _ r9 => mo_noPlace_ok (Z := Z) (d := e9) (by omega)  r9) hf (fun z_5 M_4 he_3 hf => ?_)
  refine ex_if (t := 22) (dg dc277 7 rfl) rfl hf (fun _ hf => ?_) (fun _ hf => ?_)
  · exact mo_meet_J22_ok hd   v1 v2 v3 M_4 _ _ _ _ hf
  · refine ex_pu (ls' := [vR 165, vI v1, vI v2, vI v3, vU, vU, vU, vU]) (st' := [vR 165, vR 165]) (dg dc277 8 rfl) rfl rfl ?_
    refine ex_pu (ls' := [vR 165, vI v1, vI v2, vI v3, vU, vU, vU, vU]) (st' := [vI v2, vR 165, vR 165]) (dg dc277 9 rfl) rfl rfl ?_
    refine ex_cI (vs := [vR 165, vI v2]) (st' := [vR 165]) (F := (mo_noPlace v2 M_4)) (Or.inr (Or.inl ⟨rfl, (dg dc277 10 rfl)⟩)) rfl rfl (rk1 (LOC.st (Nat.le_of_ble_eq_true rfl) rfl) rfl) rfl (fun _ r9 => mo_noPlace_ok (Z := Z) (d := e9) (by omega)  r9) hf (fun z_36 M_35 he_34 hf => ?_)
    refine ex_if (t := 26) (dg dc277 11 rfl) rfl hf (fun _ hf => ?_) (fun _ hf => ?_)
    · refine ex_pu (ls' := [vR 165, vI v1, vI v2, vI v3, vU, vU, vU, vU]) (st' := [vI 0, vR 165]) (dg dc277 14 rfl) rfl rfl ?_
      exact mo_meet_J27_ok hd   v1 v2 v3 0 M_35 _ _ _ _ hf
    · exact mo_meet_J22_ok hd   v1 v2 v3 M_35 _ _ _ _ hf
-- GlassHillModel.surest
def il278 : List (Nat × Instr × Nat) := [(0, .aload_n 0, 1), (1, .iconst 0, 1), (2, .putfield 3, 3), (5, .aload_n 0, 1), (6, .aload_n 0, 1), (7, .iload_n 1, 1), (8, .invokevirtual 393, 3), (11, .ifCond .ne 11, 3), (14, .aload_n 0, 1), (15, .iload_n 2, 1), (16, .invokevirtual 393, 3), (19, .ifCond .eq 7, 3), (22, .iconst 1, 1), (23, .goto 4, 3), (26, .iconst 0, 1), (27, .iconst 1, 1), (28, .invokevirtual 274, 3), (31, .ifCond .eq 5, 3), (34, .iconst 0, 1), (35, .ireturn, 1), (36, .iconst 0, 1), (37, .istore_n 3, 1), (38, .iload_n 3, 1), (39, .bipush 10, 2), (41, .if_icmp .ge 27, 3), (44, .aload_n 0, 1), (45, .getfield 46, 3), (48, .iload_n 3, 1), (49, .iload_n 3, 1), (50, .iload_n 1, 1), (51, .if_icmp .ne 9, 3), (54, .ldc_w 472, 3), (57, .goto 4, 3), (60, .iconst 0, 1), (61, .iastore, 1), (62, .iinc 3 1, 3), (65, .goto (-27), 3), (68, .iconst 0, 1), (69, .istore_n 3, 1), (70, .iload_n 3, 1), (71, .aload_n 0, 1), (72, .invokevirtual 76, 3), (75, .if_icmp .ge 123, 3), (78, .iconst 0, 1), (79, .istore 4, 2), (81, .iload 4, 2), (83, .aload_n 0, 1), (84, .invokevirtual 87, 3), (87, .if_icmp .ge 105, 3), (90, .aload_n 0, 1), (91, .iload 4, 2), (93, .iconst 0, 1), (94, .invokevirtual 352, 3), (97, .istore 5, 2), (99, .aload_n 0, 1), (100, .iload 4, 2), (102, .iconst 1, 1), (103, .invokevirtual 352, 3), (106, .istore 6, 2), (108, .aload_n 0, 1), (109, .getfield 46, 3), (112, .iload 5, 2), (114, .aload_n 0, 1), (115, .getfield 46, 3), (118, .iload 5, 2), (120, .iaload, 1), (121, .aload_n 0, 1), (122, .getfield 46, 3), (125, .iload 6, 2), (127, .iaload, 1), (128, .i2l, 1), (129, .aload_n 0, 1), (130, .iload 4, 2), (132, .iconst 3, 1), (133, .invokevirtual 352, 3), (136, .i2l, 1), (137, .lmul, 1), (138, .ldc2_w 473, 3), (141, .ldiv, 1), (142, .l2i, 1), (143, .invokestatic 469, 3), (146, .iastore, 1), (147, .aload_n 0, 1), (148, .getfield 46, 3), (151, .iload 6, 2), (153, .aload_n 0, 1), (154, .getfield 46, 3), (157, .iload 6, 2), (159, .iaload, 1), (160, .aload_n 0, 1), (161, .getfield 46, 3), (164, .iload 5, 2), (166, .iaload, 1), (167, .i2l, 1), (168, .aload_n 0, 1), (169, .iload 4, 2), (171, .iconst 3, 1), (172, .invokevirtual 352, 3), (175, .i2l, 1), (176, .lmul, 1), (177, .ldc2_w 473, 3), (180, .ldiv, 1), (181, .l2i, 1), (182, .invokestatic 469, 3), (185, .iastore, 1), (186, .iinc 4 1, 3), (189, .goto (-108), 3), (192, .iinc 3 1, 3), (195, .goto (-125), 3), (198, .aload_n 0, 1), (199, .getfield 46, 3), (202, .iload_n 2, 1), (203, .iaload, 1), (204, .ireturn, 1)]
theorem dc278 : dcs (mC 278) il278 := dc_of (by decide +kernel)
def mo_surest_L38  (v1 v2 : Int) (K1 : MM → OR) : Nat → Int → MM → OR
  | 0, _, _ => none
  | n + 1, v3, M => (bif cmpB .ge v3 10 then (K1  M) else (bif cmpB .ne v3 v1 then (bif inB v3 10 then (sM (mU M 175 (v3).toNat 0) fun M_9 => (mo_surest_L38 v1 v2 K1 n (v3 + 1) M_9)) else none) else (bif inB v3 10 then (sM (mU M 175 (v3).toNat 1000000) fun M_11 => (mo_surest_L38 v1 v2 K1 n (v3 + 1) M_11)) else none)))
set_option maxRecDepth 4000 in
theorem mo_surest_L38_ok {Z : Nat × (Nat → Int)} {d : Nat} (hd : 2 ≤ d)  {v1 v2 : Int} {K1 : MM → OR} {res : AR × MM} (k1 : ∀ (M : MM) (j1 j3 j4 j5 j6 : AV), K1  M = some res → EX Z d 278 68 [vR 165, j1, vI v2, j3, j4, j5, j6] [] M res) : ∀ (n : Nat) (v3 : Int) (M : MM) (j4 j5 j6 : AV), mo_surest_L38 v1 v2 K1 n v3 M = some res → EX Z d 278 38 [vR 165, vI v1, vI v2, vI v3, j4, j5, j6] [] M res := by
  obtain ⟨e9, rfl⟩ : ∃ e9, d = e9 + 1 := ⟨d - 1, by omega⟩
  intro n
  induction n with
  | zero =>
    intro v3 M j4 j5 j6 hf
    unfold mo_surest_L38 at hf
    cases hf
  | succ n ih =>
    intro v3 M j4 j5 j6 hf
    unfold mo_surest_L38 at hf
    refine ex_pu (ls' := [vR 165, vI v1, vI v2, vI v3, j4, j5, j6]) (st' := [vI v3]) (dg dc278 22 rfl) rfl rfl ?_
    refine ex_pu (ls' := [vR 165, vI v1, vI v2, vI v3, j4, j5, j6]) (st' := [vI 10, vI v3]) (dg dc278 23 rfl) rfl rfl ?_
    refine ex_icmp (t := 68) (dg dc278 24 rfl) rfl hf (fun _ hf => ?_) (fun _ hf => ?_)
    · exact k1  M _ _ _ _ _ hf
    · refine ex_pu (ls' := [vR 165, vI v1, vI v2, vI v3, j4, j5, j6]) (st' := [vR 165]) (dg dc278 25 rfl) rfl rfl ?_
      refine ex_getO (dg dc278 26 rfl) rfl (LOC.st (Nat.le_of_ble_eq_true rfl) rfl) rfl ?_
      show EX Z _ 278 _ [vR 165, vI v1, vI v2, vI v3, j4, j5, j6] [vR 175] _ _
      refine ex_pu (ls' := [vR 165, vI v1, vI v2, vI v3, j4, j5, j6]) (st' := [vI v3, vR 175]) (dg dc278 27 rfl) rfl rfl ?_
      refine ex_pu (ls' := [vR 165, vI v1, vI v2, vI v3, j4, j5, j6]) (st' := [vI v3, vI v3, vR 175]) (dg dc278 28 rfl) rfl rfl ?_
      refine ex_pu (ls' := [vR 165, vI v1, vI v2, vI v3, j4, j5, j6]) (st' := [vI v1, vI v3, vI v3, vR 175]) (dg dc278 29 rfl) rfl rfl ?_
      refine ex_icmp (t := 60) (dg dc278 30 rfl) rfl hf (fun _ hf => ?_) (fun _ hf => ?_)
      · refine ex_pu (ls' := [vR 165, vI v1, vI v2, vI v3, j4, j5, j6]) (st' := [vI 0, vI v3, vR 175]) (dg dc278 33 rfl) rfl rfl ?_
        refine ex_iast (dg dc278 34 rfl) (LOC.st (Nat.le_of_ble_eq_true rfl) rfl) rfl rfl hf (fun _ hf => ?_)
        refine ex_gen hf (fun M_9 hM_10 hf => ?_)
        refine ex_pu (ls' := [vR 165, vI v1, vI v2, vI (v3 + 1), j4, j5, j6]) (st' := []) (dg dc278 35 rfl) rfl rfl ?_
        refine ex_goto (t := 38) (dg dc278 36 rfl) rfl rfl ?_
        exact ih (v3 + 1) M_9 _ _ _ hf
      · refine ex_ldcW (dg dc278 31 rfl) rfl ?_
        refine ex_goto (t := 61) (dg dc278 32 rfl) rfl rfl ?_
        refine ex_iast (dg dc278 34 rfl) (LOC.st (Nat.le_of_ble_eq_true rfl) rfl) rfl rfl hf (fun _ hf => ?_)
        refine ex_gen hf (fun M_11 hM_12 hf => ?_)
        refine ex_pu (ls' := [vR 165, vI v1, vI v2, vI (v3 + 1), j4, j5, j6]) (st' := []) (dg dc278 35 rfl) rfl rfl ?_
        refine ex_goto (t := 38) (dg dc278 36 rfl) rfl rfl ?_
        exact ih (v3 + 1) M_11 _ _ _ hf
def mo_surest_L81  (v2 v3 : Int) (K1 : MM → OR) : Nat → Int → MM → OR
  | 0, _, _ => none
  | n + 1, v4, M => (bI (mo_roads  M) fun z_24 M_23 => (bif cmpB .ge v4 z_24 then (K1  M_23) else (bI (mo_ofRoad v4 0 M_23) fun z_27 M_26 => (bI (mo_ofRoad v4 1 M_26) fun z_30 M_29 => (bif inB z_27 10 then (bif inB z_30 10 then (bI (mo_ofRoad v4 3 M_29) fun z_33 M_32 => (bif inB z_27 10 then (sM (mU M_32 175 (z_27).toNat (imax (M_29 175 (z_27).toNat) ((w64 ((w32 (M_29 175 (z_30).toNat)) * (w32 z_33))).tdiv (w64 100)))) fun M_34 => (bif inB z_30 10 then (bif inB z_27 10 then (bI (mo_ofRoad v4 3 M_34) fun z_38 M_37 => (bif inB z_30 10 then (sM (mU M_37 175 (z_30).toNat (imax (M_34 175 (z_30).toNat) ((w64 ((w32 (M_34 175 (z_27).toNat)) * (w32 z_38))).tdiv (w64 100)))) fun M_39 => (mo_surest_L81 v2 v3 K1 n (v4 + 1) M_39)) else none)) else none) else none)) else none)) else none) else none)))))
set_option maxRecDepth 4000 in
theorem mo_surest_L81_ok {Z : Nat × (Nat → Int)} {d : Nat} (hd : 2 ≤ d)  {v2 v3 : Int} {K1 : MM → OR} {res : AR × MM} (k1 : ∀ (M : MM) (j1 j4 j5 j6 : AV), K1  M = some res → EX Z d 278 192 [vR 165, j1, vI v2, vI v3, j4, j5, j6] [] M res) : ∀ (n : Nat) (v4 : Int) (M : MM) (j1 j5 j6 : AV), mo_surest_L81 v2 v3 K1 n v4 M = some res → EX Z d 278 81 [vR 165, j1, vI v2, vI v3, vI v4, j5, j6] [] M res := by
  obtain ⟨e9, rfl⟩ : ∃ e9, d = e9 + 1 := ⟨d - 1, by omega⟩
  intro n
  induction n with
  | zero =>
    intro v4 M j1 j5 j6 hf
    unfold mo_surest_L81 at hf
    cases hf
  | succ n ih =>
    intro v4 M j1 j5 j6 hf
    unfold mo_surest_L81 at hf
    refine ex_pu (ls' := [vR 165, j1, vI v2, vI v3, vI v4, j5, j6]) (st' := [vI v4]) (dg dc278 45 rfl) rfl rfl ?_
    refine ex_pu (ls' := [vR 165, j1, vI v2, vI v3, vI v4, j5, j6]) (st' := [vR 165, vI v4]) (dg dc278 46 rfl) rfl rfl ?_
    refine ex_cI (vs := [vR 165]) (st' := [vI v4]) (F := (mo_roads  M)) (Or.inr (Or.inl ⟨rfl, (dg dc278 47 rfl)⟩)) rfl rfl (rk1 (LOC.st (Nat.le_of_ble_eq_true rfl) rfl) rfl) rfl (fun _ r9 => mo_roads_ok (Z := Z) (d := e9) (by omega)  r9) hf (fun z_24 M_23 he_22 hf => ?_)
    refine ex_icmp (t := 192) (dg dc278 48 rfl) rfl hf (fun _ hf => ?_) (fun _ hf => ?_)
    · exact k1  M_23 _ _ _ _ hf
    · refine ex_pu (ls' := [vR 165, j1, vI v2, vI v3, vI v4, j5, j6]) (st' := [vR 165]) (dg dc278 49 rfl) rfl rfl ?_
      refine ex_pu (ls' := [vR 165, j1, vI v2, vI v3, vI v4, j5, j6]) (st' := [vI v4, vR 165]) (dg dc278 50 rfl) rfl rfl ?_
      refine ex_pu (ls' := [vR 165, j1, vI v2, vI v3, vI v4, j5, j6]) (st' := [vI 0, vI v4, vR 165]) (dg dc278 51 rfl) rfl rfl ?_
      refine ex_cI (vs := [vR 165, vI v4, vI 0]) (st' := []) (F := (mo_ofRoad v4 0 M_23)) (Or.inr (Or.inl ⟨rfl, (dg dc278 52 rfl)⟩)) rfl rfl (rk1 (LOC.st (Nat.le_of_ble_eq_true rfl) rfl) rfl) rfl (fun _ r9 => mo_ofRoad_ok (Z := Z) (d := e9) (by omega)  r9) hf (fun z_27 M_26 he_25 hf => ?_)
      refine ex_pu (ls' := [vR 165, j1, vI v2, vI v3, vI v4, vI z_27, j6]) (st' := []) (dg dc278 53 rfl) rfl rfl ?_
      refine ex_pu (ls' := [vR 165, j1, vI v2, vI v3, vI v4, vI z_27, j6]) (st' := [vR 165]) (dg dc278 54 rfl) rfl rfl ?_
      refine ex_pu (ls' := [vR 165, j1, vI v2, vI v3, vI v4, vI z_27, j6]) (st' := [vI v4, vR 165]) (dg dc278 55 rfl) rfl rfl ?_
      refine ex_pu (ls' := [vR 165, j1, vI v2, vI v3, vI v4, vI z_27, j6]) (st' := [vI 1, vI v4, vR 165]) (dg dc278 56 rfl) rfl rfl ?_
      refine ex_cI (vs := [vR 165, vI v4, vI 1]) (st' := []) (F := (mo_ofRoad v4 1 M_26)) (Or.inr (Or.inl ⟨rfl, (dg dc278 57 rfl)⟩)) rfl rfl (rk1 (LOC.st (Nat.le_of_ble_eq_true rfl) rfl) rfl) rfl (fun _ r9 => mo_ofRoad_ok (Z := Z) (d := e9) (by omega)  r9) hf (fun z_30 M_29 he_28 hf => ?_)
      refine ex_pu (ls' := [vR 165, j1, vI v2, vI v3, vI v4, vI z_27, vI z_30]) (st' := []) (dg dc278 58 rfl) rfl rfl ?_
      refine ex_pu (ls' := [vR 165, j1, vI v2, vI v3, vI v4, vI z_27, vI z_30]) (st' := [vR 165]) (dg dc278 59 rfl) rfl rfl ?_
      refine ex_getO (dg dc278 60 rfl) rfl (LOC.st (Nat.le_of_ble_eq_true rfl) rfl) rfl ?_
      show EX Z _ 278 _ [vR 165, j1, vI v2, vI v3, vI v4, vI z_27, vI z_30] [vR 175] _ _
      refine ex_pu (ls' := [vR 165, j1, vI v2, vI v3, vI v4, vI z_27, vI z_30]) (st' := [vI z_27, vR 175]) (dg dc278 61 rfl) rfl rfl ?_
      refine ex_pu (ls' := [vR 165, j1, vI v2, vI v3, vI v4, vI z_27, vI z_30]) (st' := [vR 165, vI z_27, vR 175]) (dg dc278 62 rfl) rfl rfl ?_
      refine ex_getO (dg dc278 63 rfl) rfl (LOC.st (Nat.le_of_ble_eq_true rfl) rfl) rfl ?_
      show EX Z _ 278 _ [vR 165, j1, vI v2, vI v3, vI v4, vI z_27, vI z_30] [vR 175, vI z_27, vR 175] _ _
      refine ex_pu (ls' := [vR 165, j1, vI v2, vI v3, vI v4, vI z_27, vI z_30]) (st' := [vI z_27, vR 175, vI z_27, vR 175]) (dg dc278 64 rfl) rfl rfl ?_
      refine ex_iald (dg dc278 65 rfl) (LOC.st (Nat.le_of_ble_eq_true rfl) rfl) rfl hf (fun _ hf => ?_)
      refine ex_pu (ls' := [vR 165, j1, vI v2, vI v3, vI v4, vI z_27, vI z_30]) (st' := [vR 165, vI (M_29 175 (z_27).toNat), vI z_27, vR 175]) (dg dc278 66 rfl) rfl rfl ?_
      refine ex_getO (dg dc278 67 rfl) rfl (LOC.st (Nat.le_of_ble_eq_true rfl) rfl) rfl ?_
      show EX Z _ 278 _ [vR 165, j1, vI v2, vI v3, vI v4, vI z_27, vI z_30] [vR 175, vI (M_29 175 (z_27).toNat), vI z_27, vR 175] _ _
      refine ex_pu (ls' := [vR 165, j1, vI v2, vI v3, vI v4, vI z_27, vI z_30]) (st' := [vI z_30, vR 175, vI (M_29 175 (z_27).toNat), vI z_27, vR 175]) (dg dc278 68 rfl) rfl rfl ?_
      refine ex_iald (dg dc278 69 rfl) (LOC.st (Nat.le_of_ble_eq_true rfl) rfl) rfl hf (fun _ hf => ?_)
      refine ex_pu (ls' := [vR 165, j1, vI v2, vI v3, vI v4, vI z_27, vI z_30]) (st' := [vJ (w32 (M_29 175 (z_30).toNat)), vI (M_29 175 (z_27).toNat), vI z_27, vR 175]) (dg dc278 70 rfl) rfl rfl ?_
      refine ex_pu (ls' := [vR 165, j1, vI v2, vI v3, vI v4, vI z_27, vI z_30]) (st' := [vR 165, vJ (w32 (M_29 175 (z_30).toNat)), vI (M_29 175 (z_27).toNat), vI z_27, vR 175]) (dg dc278 71 rfl) rfl rfl ?_
      refine ex_pu (ls' := [vR 165, j1, vI v2, vI v3, vI v4, vI z_27, vI z_30]) (st' := [vI v4, vR 165, vJ (w32 (M_29 175 (z_30).toNat)), vI (M_29 175 (z_27).toNat), vI z_27, vR 175]) (dg dc278 72 rfl) rfl rfl ?_
      refine ex_pu (ls' := [vR 165, j1, vI v2, vI v3, vI v4, vI z_27, vI z_30]) (st' := [vI 3, vI v4, vR 165, vJ (w32 (M_29 175 (z_30).toNat)), vI (M_29 175 (z_27).toNat), vI z_27, vR 175]) (dg dc278 73 rfl) rfl rfl ?_
      refine ex_cI (vs := [vR 165, vI v4, vI 3]) (st' := [vJ (w32 (M_29 175 (z_30).toNat)), vI (M_29 175 (z_27).toNat), vI z_27, vR 175]) (F := (mo_ofRoad v4 3 M_29)) (Or.inr (Or.inl ⟨rfl, (dg dc278 74 rfl)⟩)) rfl rfl (rk1 (LOC.st (Nat.le_of_ble_eq_true rfl) rfl) rfl) rfl (fun _ r9 => mo_ofRoad_ok (Z := Z) (d := e9) (by omega)  r9) hf (fun z_33 M_32 he_31 hf => ?_)
      refine ex_pu (ls' := [vR 165, j1, vI v2, vI v3, vI v4, vI z_27, vI z_30]) (st' := [vJ (w32 z_33), vJ (w32 (M_29 175 (z_30).toNat)), vI (M_29 175 (z_27).toNat), vI z_27, vR 175]) (dg dc278 75 rfl) rfl rfl ?_
      refine ex_pu (ls' := [vR 165, j1, vI v2, vI v3, vI v4, vI z_27, vI z_30]) (st' := [vJ ((w32 (M_29 175 (z_30).toNat)) * (w32 z_33)), vI (M_29 175 (z_27).toNat), vI z_27, vR 175]) (dg dc278 76 rfl) rfl rfl ?_
      refine ex_ldc2 (dg dc278 77 rfl) rfl ?_
      refine ex_ldiv (dg dc278 78 rfl) (by decide +kernel) ?_
      refine ex_pu (ls' := [vR 165, j1, vI v2, vI v3, vI v4, vI z_27, vI z_30]) (st' := [vI ((w64 ((w32 (M_29 175 (z_30).toNat)) * (w32 z_33))).tdiv (w64 100)), vI (M_29 175 (z_27).toNat), vI z_27, vR 175]) (dg dc278 79 rfl) rfl rfl ?_
      refine ex_max (dg dc278 80 rfl) rfl rfl ?_
      refine ex_iast (dg dc278 81 rfl) (LOC.st (Nat.le_of_ble_eq_true rfl) rfl) rfl rfl hf (fun _ hf => ?_)
      refine ex_gen hf (fun M_34 hM_35 hf => ?_)
      refine ex_pu (ls' := [vR 165, j1, vI v2, vI v3, vI v4, vI z_27, vI z_30]) (st' := [vR 165]) (dg dc278 82 rfl) rfl rfl ?_
      refine ex_getO (dg dc278 83 rfl) rfl (LOC.st (Nat.le_of_ble_eq_true rfl) rfl) rfl ?_
      show EX Z _ 278 _ [vR 165, j1, vI v2, vI v3, vI v4, vI z_27, vI z_30] [vR 175] _ _
      refine ex_pu (ls' := [vR 165, j1, vI v2, vI v3, vI v4, vI z_27, vI z_30]) (st' := [vI z_30, vR 175]) (dg dc278 84 rfl) rfl rfl ?_
      refine ex_pu (ls' := [vR 165, j1, vI v2, vI v3, vI v4, vI z_27, vI z_30]) (st' := [vR 165, vI z_30, vR 175]) (dg dc278 85 rfl) rfl rfl ?_
      refine ex_getO (dg dc278 86 rfl) rfl (LOC.st (Nat.le_of_ble_eq_true rfl) rfl) rfl ?_
      show EX Z _ 278 _ [vR 165, j1, vI v2, vI v3, vI v4, vI z_27, vI z_30] [vR 175, vI z_30, vR 175] _ _
      refine ex_pu (ls' := [vR 165, j1, vI v2, vI v3, vI v4, vI z_27, vI z_30]) (st' := [vI z_30, vR 175, vI z_30, vR 175]) (dg dc278 87 rfl) rfl rfl ?_
      refine ex_iald (dg dc278 88 rfl) (LOC.st (Nat.le_of_ble_eq_true rfl) rfl) rfl hf (fun _ hf => ?_)
      refine ex_pu (ls' := [vR 165, j1, vI v2, vI v3, vI v4, vI z_27, vI z_30]) (st' := [vR 165, vI (M_34 175 (z_30).toNat), vI z_30, vR 175]) (dg dc278 89 rfl) rfl rfl ?_
      refine ex_getO (dg dc278 90 rfl) rfl (LOC.st (Nat.le_of_ble_eq_true rfl) rfl) rfl ?_
      show EX Z _ 278 _ [vR 165, j1, vI v2, vI v3, vI v4, vI z_27, vI z_30] [vR 175, vI (M_34 175 (z_30).toNat), vI z_30, vR 175] _ _
      refine ex_pu (ls' := [vR 165, j1, vI v2, vI v3, vI v4, vI z_27, vI z_30]) (st' := [vI z_27, vR 175, vI (M_34 175 (z_30).toNat), vI z_30, vR 175]) (dg dc278 91 rfl) rfl rfl ?_
      refine ex_iald (dg dc278 92 rfl) (LOC.st (Nat.le_of_ble_eq_true rfl) rfl) rfl hf (fun _ hf => ?_)
      refine ex_pu (ls' := [vR 165, j1, vI v2, vI v3, vI v4, vI z_27, vI z_30]) (st' := [vJ (w32 (M_34 175 (z_27).toNat)), vI (M_34 175 (z_30).toNat), vI z_30, vR 175]) (dg dc278 93 rfl) rfl rfl ?_
      refine ex_pu (ls' := [vR 165, j1, vI v2, vI v3, vI v4, vI z_27, vI z_30]) (st' := [vR 165, vJ (w32 (M_34 175 (z_27).toNat)), vI (M_34 175 (z_30).toNat), vI z_30, vR 175]) (dg dc278 94 rfl) rfl rfl ?_
      refine ex_pu (ls' := [vR 165, j1, vI v2, vI v3, vI v4, vI z_27, vI z_30]) (st' := [vI v4, vR 165, vJ (w32 (M_34 175 (z_27).toNat)), vI (M_34 175 (z_30).toNat), vI z_30, vR 175]) (dg dc278 95 rfl) rfl rfl ?_
      refine ex_pu (ls' := [vR 165, j1, vI v2, vI v3, vI v4, vI z_27, vI z_30]) (st' := [vI 3, vI v4, vR 165, vJ (w32 (M_34 175 (z_27).toNat)), vI (M_34 175 (z_30).toNat), vI z_30, vR 175]) (dg dc278 96 rfl) rfl rfl ?_
      refine ex_cI (vs := [vR 165, vI v4, vI 3]) (st' := [vJ (w32 (M_34 175 (z_27).toNat)), vI (M_34 175 (z_30).toNat), vI z_30, vR 175]) (F := (mo_ofRoad v4 3 M_34)) (Or.inr (Or.inl ⟨rfl, (dg dc278 97 rfl)⟩)) rfl rfl (rk1 (LOC.st (Nat.le_of_ble_eq_true rfl) rfl) rfl) rfl (fun _ r9 => mo_ofRoad_ok (Z := Z) (d := e9) (by omega)  r9) hf (fun z_38 M_37 he_36 hf => ?_)
      refine ex_pu (ls' := [vR 165, j1, vI v2, vI v3, vI v4, vI z_27, vI z_30]) (st' := [vJ (w32 z_38), vJ (w32 (M_34 175 (z_27).toNat)), vI (M_34 175 (z_30).toNat), vI z_30, vR 175]) (dg dc278 98 rfl) rfl rfl ?_
      refine ex_pu (ls' := [vR 165, j1, vI v2, vI v3, vI v4, vI z_27, vI z_30]) (st' := [vJ ((w32 (M_34 175 (z_27).toNat)) * (w32 z_38)), vI (M_34 175 (z_30).toNat), vI z_30, vR 175]) (dg dc278 99 rfl) rfl rfl ?_
      refine ex_ldc2 (dg dc278 100 rfl) rfl ?_
      refine ex_ldiv (dg dc278 101 rfl) (by decide +kernel) ?_
      refine ex_pu (ls' := [vR 165, j1, vI v2, vI v3, vI v4, vI z_27, vI z_30]) (st' := [vI ((w64 ((w32 (M_34 175 (z_27).toNat)) * (w32 z_38))).tdiv (w64 100)), vI (M_34 175 (z_30).toNat), vI z_30, vR 175]) (dg dc278 102 rfl) rfl rfl ?_
      refine ex_max (dg dc278 103 rfl) rfl rfl ?_
      refine ex_iast (dg dc278 104 rfl) (LOC.st (Nat.le_of_ble_eq_true rfl) rfl) rfl rfl hf (fun _ hf => ?_)
      refine ex_gen hf (fun M_39 hM_40 hf => ?_)
      refine ex_pu (ls' := [vR 165, j1, vI v2, vI v3, vI (v4 + 1), vI z_27, vI z_30]) (st' := []) (dg dc278 105 rfl) rfl rfl ?_
      refine ex_goto (t := 81) (dg dc278 106 rfl) rfl rfl ?_
      exact ih (v4 + 1) M_39 _ _ _ hf
def mo_surest_L70  (v2 : Int) (K1 : MM → OR) : Nat → Int → MM → OR
  | 0, _, _ => none
  | n + 1, v3, M => (bI (mo_places  M) fun z_21 M_20 => (bif cmpB .ge v3 z_21 then (K1  M_20) else (mo_surest_L81 v2 v3 (fun M_41 => (mo_surest_L70 v2 K1 n (v3 + 1) M_41)) FU 0 M_20)))
set_option maxRecDepth 4000 in
theorem mo_surest_L70_ok {Z : Nat × (Nat → Int)} {d : Nat} (hd : 2 ≤ d)  {v2 : Int} {K1 : MM → OR} {res : AR × MM} (k1 : ∀ (M : MM) (j1 j3 j4 j5 j6 : AV), K1  M = some res → EX Z d 278 198 [vR 165, j1, vI v2, j3, j4, j5, j6] [] M res) : ∀ (n : Nat) (v3 : Int) (M : MM) (j1 j4 j5 j6 : AV), mo_surest_L70 v2 K1 n v3 M = some res → EX Z d 278 70 [vR 165, j1, vI v2, vI v3, j4, j5, j6] [] M res := by
  obtain ⟨e9, rfl⟩ : ∃ e9, d = e9 + 1 := ⟨d - 1, by omega⟩
  intro n
  induction n with
  | zero =>
    intro v3 M j1 j4 j5 j6 hf
    unfold mo_surest_L70 at hf
    cases hf
  | succ n ih =>
    intro v3 M j1 j4 j5 j6 hf
    unfold mo_surest_L70 at hf
    refine ex_pu (ls' := [vR 165, j1, vI v2, vI v3, j4, j5, j6]) (st' := [vI v3]) (dg dc278 39 rfl) rfl rfl ?_
    refine ex_pu (ls' := [vR 165, j1, vI v2, vI v3, j4, j5, j6]) (st' := [vR 165, vI v3]) (dg dc278 40 rfl) rfl rfl ?_
    refine ex_cI (vs := [vR 165]) (st' := [vI v3]) (F := (mo_places  M)) (Or.inr (Or.inl ⟨rfl, (dg dc278 41 rfl)⟩)) rfl rfl (rk1 (LOC.st (Nat.le_of_ble_eq_true rfl) rfl) rfl) rfl (fun _ r9 => mo_places_ok (Z := Z) (d := e9) (by omega)  r9) hf (fun z_21 M_20 he_19 hf => ?_)
    refine ex_icmp (t := 198) (dg dc278 42 rfl) rfl hf (fun _ hf => ?_) (fun _ hf => ?_)
    · exact k1  M_20 _ _ _ _ _ hf
    · refine ex_pu (ls' := [vR 165, j1, vI v2, vI v3, j4, j5, j6]) (st' := [vI 0]) (dg dc278 43 rfl) rfl rfl ?_
      refine ex_pu (ls' := [vR 165, j1, vI v2, vI v3, vI 0, j5, j6]) (st' := []) (dg dc278 44 rfl) rfl rfl ?_
      refine mo_surest_L81_ok hd  ?_ FU 0 M_20 _ _ _ hf
      · intro M_41 j1_42 j4_43 j5_44 j6_45 hf
        refine ex_pu (ls' := [vR 165, j1_42, vI v2, vI (v3 + 1), j4_43, j5_44, j6_45]) (st' := []) (dg dc278 107 rfl) rfl rfl ?_
        refine ex_goto (t := 70) (dg dc278 108 rfl) rfl rfl ?_
        exact ih (v3 + 1) M_41 _ _ _ _ hf
def mo_surest_J27   (v1 v2 s0 : Int) (M : MM) : OR :=
  (bI (mo_throwsIf s0 1 M) fun z_8 M_7 => (bif cmpB .eq z_8 0 then (mo_surest_L38 v1 v2 (fun M_13 => (mo_surest_L70 v2 (fun M_46 => (bif inB v2 10 then some (rI (M_46 175 (v2).toNat), M_46) else none)) FU 0 M_13)) FU 0 M_7) else some (rI 0, M_7)))
set_option maxRecDepth 4000 in
theorem mo_surest_J27_ok {Z : Nat × (Nat → Int)} {d : Nat} (hd : 2 ≤ d)   {res : AR × MM}  : ∀ (v1 v2 s0 : Int) (M : MM) (j3 j4 j5 j6 : AV), mo_surest_J27   v1 v2 s0 M = some res → EX Z d 278 27 [vR 165, vI v1, vI v2, j3, j4, j5, j6] [vI s0, vR 165] M res := by
  obtain ⟨e9, rfl⟩ : ∃ e9, d = e9 + 1 := ⟨d - 1, by omega⟩
  intro v1 v2 s0 M j3 j4 j5 j6 hf
  unfold mo_surest_J27 at hf
  refine ex_pu (ls' := [vR 165, vI v1, vI v2, j3, j4, j5, j6]) (st' := [vI 1, vI s0, vR 165]) (dg dc278 15 rfl) rfl rfl ?_
  refine ex_cI (vs := [vR 165, vI s0, vI 1]) (st' := []) (F := (mo_throwsIf s0 1 M)) (Or.inr (Or.inl ⟨rfl, (dg dc278 16 rfl)⟩)) rfl rfl (rk1 (LOC.st (Nat.le_of_ble_eq_true rfl) rfl) rfl) rfl (fun _ r9 => mo_throwsIf_ok (Z := Z) (d := e9) (by omega)  r9) hf (fun z_8 M_7 he_6 hf => ?_)
  refine ex_if (t := 36) (dg dc278 17 rfl) rfl hf (fun _ hf => ?_) (fun _ hf => ?_)
  · refine ex_pu (ls' := [vR 165, vI v1, vI v2, j3, j4, j5, j6]) (st' := [vI 0]) (dg dc278 20 rfl) rfl rfl ?_
    refine ex_pu (ls' := [vR 165, vI v1, vI v2, vI 0, j4, j5, j6]) (st' := []) (dg dc278 21 rfl) rfl rfl ?_
    refine mo_surest_L38_ok hd  ?_ FU 0 M_7 _ _ _ hf
    · intro M_13 j1_14 j3_15 j4_16 j5_17 j6_18 hf
      refine ex_pu (ls' := [vR 165, j1_14, vI v2, j3_15, j4_16, j5_17, j6_18]) (st' := [vI 0]) (dg dc278 37 rfl) rfl rfl ?_
      refine ex_pu (ls' := [vR 165, j1_14, vI v2, vI 0, j4_16, j5_17, j6_18]) (st' := []) (dg dc278 38 rfl) rfl rfl ?_
      refine mo_surest_L70_ok hd  ?_ FU 0 M_13 _ _ _ _ hf
      · intro M_46 j1_47 j3_48 j4_49 j5_50 j6_51 hf
        refine ex_pu (ls' := [vR 165, j1_47, vI v2, j3_48, j4_49, j5_50, j6_51]) (st' := [vR 165]) (dg dc278 109 rfl) rfl rfl ?_
        refine ex_getO (dg dc278 110 rfl) rfl (LOC.st (Nat.le_of_ble_eq_true rfl) rfl) rfl ?_
        show EX Z _ 278 _ [vR 165, j1_47, vI v2, j3_48, j4_49, j5_50, j6_51] [vR 175] _ _
        refine ex_pu (ls' := [vR 165, j1_47, vI v2, j3_48, j4_49, j5_50, j6_51]) (st' := [vI v2, vR 175]) (dg dc278 111 rfl) rfl rfl ?_
        refine ex_iald (dg dc278 112 rfl) (LOC.st (Nat.le_of_ble_eq_true rfl) rfl) rfl hf (fun _ hf => ?_)
        exact ex_ire (dg dc278 113 rfl) rfl hf
  · refine ex_pu (ls' := [vR 165, vI v1, vI v2, j3, j4, j5, j6]) (st' := [vI 0]) (dg dc278 18 rfl) rfl rfl ?_
    exact ex_ire (dg dc278 19 rfl) rfl hf
def mo_surest_J22   (v1 v2 : Int) (M : MM) : OR :=
  (mo_surest_J27   v1 v2 1 M)
set_option maxRecDepth 4000 in
theorem mo_surest_J22_ok {Z : Nat × (Nat → Int)} {d : Nat} (hd : 2 ≤ d)   {res : AR × MM}  : ∀ (v1 v2 : Int) (M : MM) (j3 j4 j5 j6 : AV), mo_surest_J22   v1 v2 M = some res → EX Z d 278 22 [vR 165, vI v1, vI v2, j3, j4, j5, j6] [vR 165] M res := by
  obtain ⟨e9, rfl⟩ : ∃ e9, d = e9 + 1 := ⟨d - 1, by omega⟩
  intro v1 v2 M j3 j4 j5 j6 hf
  unfold mo_surest_J22 at hf
  refine ex_pu (ls' := [vR 165, vI v1, vI v2, j3, j4, j5, j6]) (st' := [vI 1, vR 165]) (dg dc278 12 rfl) rfl rfl ?_
  refine ex_goto (t := 27) (dg dc278 13 rfl) rfl rfl ?_
  exact mo_surest_J27_ok hd   v1 v2 1 M _ _ _ _ hf
def mo_surest (v1 : Int) (v2 : Int) (M : MM) : OR :=
  (sM (mU M 165 0 0) fun M_1 => (bI (mo_noPlace v1 M_1) fun z_5 M_4 => (bif cmpB .ne z_5 0 then (mo_surest_J22   v1 v2 M_4) else (bI (mo_noPlace v2 M_4) fun z_54 M_53 => (bif cmpB .eq z_54 0 then (mo_surest_J27   v1 v2 0 M_53) else (mo_surest_J22   v1 v2 M_53))))))
set_option maxRecDepth 4000 in
theorem mo_surest_ok {Z : Nat × (Nat → Int)} {d : Nat} (hd : 2 ≤ d) {M : MM}  {v1 v2 : Int} {res : AR × MM} (hf : mo_surest v1 v2 M = some res) : EX Z d 278 0 (ent 278 [vR 165, vI v1, vI v2]) [] M res := by
  obtain ⟨e9, rfl⟩ : ∃ e9, d = e9 + 1 := ⟨d - 1, by omega⟩
  unfold mo_surest at hf
  show EX Z _ 278 0 [vR 165, vI v1, vI v2, vU, vU, vU, vU] [] M res
  refine ex_pu (ls' := [vR 165, vI v1, vI v2, vU, vU, vU, vU]) (st' := [vR 165]) (dg dc278 0 rfl) rfl rfl ?_
  refine ex_pu (ls' := [vR 165, vI v1, vI v2, vU, vU, vU, vU]) (st' := [vI 0, vR 165]) (dg dc278 1 rfl) rfl rfl ?_
  refine ex_putI (dg dc278 2 rfl) rfl (LOC.st (Nat.le_of_ble_eq_true rfl) rfl) rfl rfl rfl ?_
  refine ex_gen hf (fun M_1 hM_2 hf => ?_)
  refine ex_pu (ls' := [vR 165, vI v1, vI v2, vU, vU, vU, vU]) (st' := [vR 165]) (dg dc278 3 rfl) rfl rfl ?_
  refine ex_pu (ls' := [vR 165, vI v1, vI v2, vU, vU, vU, vU]) (st' := [vR 165, vR 165]) (dg dc278 4 rfl) rfl rfl ?_
  refine ex_pu (ls' := [vR 165, vI v1, vI v2, vU, vU, vU, vU]) (st' := [vI v1, vR 165, vR 165]) (dg dc278 5 rfl) rfl rfl ?_
  refine ex_cI (vs := [vR 165, vI v1]) (st' := [vR 165]) (F := (mo_noPlace v1 M_1)) (Or.inr (Or.inl ⟨rfl, (dg dc278 6 rfl)⟩)) rfl rfl (rk1 (LOC.st (Nat.le_of_ble_eq_true rfl) rfl) rfl) rfl (fun _ r9 => mo_noPlace_ok (Z := Z) (d := e9) (by omega)  r9) hf (fun z_5 M_4 he_3 hf => ?_)
  refine ex_if (t := 22) (dg dc278 7 rfl) rfl hf (fun _ hf => ?_) (fun _ hf => ?_)
  · exact mo_surest_J22_ok hd   v1 v2 M_4 _ _ _ _ hf
  · refine ex_pu (ls' := [vR 165, vI v1, vI v2, vU, vU, vU, vU]) (st' := [vR 165, vR 165]) (dg dc278 8 rfl) rfl rfl ?_
    refine ex_pu (ls' := [vR 165, vI v1, vI v2, vU, vU, vU, vU]) (st' := [vI v2, vR 165, vR 165]) (dg dc278 9 rfl) rfl rfl ?_
    refine ex_cI (vs := [vR 165, vI v2]) (st' := [vR 165]) (F := (mo_noPlace v2 M_4)) (Or.inr (Or.inl ⟨rfl, (dg dc278 10 rfl)⟩)) rfl rfl (rk1 (LOC.st (Nat.le_of_ble_eq_true rfl) rfl) rfl) rfl (fun _ r9 => mo_noPlace_ok (Z := Z) (d := e9) (by omega)  r9) hf (fun z_54 M_53 he_52 hf => ?_)
    refine ex_if (t := 26) (dg dc278 11 rfl) rfl hf (fun _ hf => ?_) (fun _ hf => ?_)
    · refine ex_pu (ls' := [vR 165, vI v1, vI v2, vU, vU, vU, vU]) (st' := [vI 0, vR 165]) (dg dc278 14 rfl) rfl rfl ?_
      exact mo_surest_J27_ok hd   v1 v2 0 M_53 _ _ _ _ hf
    · exact mo_surest_J22_ok hd   v1 v2 M_53 _ _ _ _ hf
-- GlassHillModel.sign
def il279 : List (Nat × Instr × Nat) := [(0, .aload_n 0, 1), (1, .iconst 0, 1), (2, .putfield 3, 3), (5, .aload_n 0, 1), (6, .aload_n 0, 1), (7, .iload_n 1, 1), (8, .invokevirtual 405, 3), (11, .iconst 1, 1), (12, .invokevirtual 274, 3), (15, .ifCond .eq 5, 3), (18, .iconst 0, 1), (19, .ireturn, 1), (20, .aload_n 0, 1), (21, .aload_n 0, 1), (22, .iload_n 1, 1), (23, .iconst 0, 1), (24, .invokevirtual 287, 3), (27, .invokevirtual 465, 3), (30, .iconst 0, 1), (31, .istore_n 2, 1), (32, .iload_n 2, 1), (33, .bipush 10, 2), (35, .if_icmp .ge 21, 3), (38, .aload_n 0, 1), (39, .getfield 49, 3), (42, .iload_n 2, 1), (43, .aload_n 0, 1), (44, .getfield 46, 3), (47, .iload_n 2, 1), (48, .iaload, 1), (49, .iastore, 1), (50, .iinc 2 1, 3), (53, .goto (-21), 3), (56, .iconst 0, 1), (57, .istore_n 2, 1), (58, .iload_n 2, 1), (59, .aload_n 0, 1), (60, .invokevirtual 76, 3), (63, .if_icmp .ge 16, 3), (66, .aload_n 0, 1), (67, .getfield 52, 3), (70, .iload_n 2, 1), (71, .iconst 1, 1), (72, .bastore, 1), (73, .iinc 2 1, 3), (76, .goto (-18), 3), (79, .iconst 0, 1), (80, .istore_n 2, 1), (81, .iload_n 2, 1), (82, .aload_n 0, 1), (83, .invokevirtual 90, 3), (86, .if_icmp .ge 78, 3), (89, .iload_n 2, 1), (90, .iload_n 1, 1), (91, .if_icmp .ne 6, 3), (94, .goto 64, 3), (97, .aload_n 0, 1), (98, .aload_n 0, 1), (99, .iload_n 2, 1), (100, .iconst 0, 1), (101, .invokevirtual 287, 3), (104, .invokevirtual 465, 3), (107, .iconst 0, 1), (108, .istore_n 3, 1), (109, .iload_n 3, 1), (110, .aload_n 0, 1), (111, .invokevirtual 76, 3), (114, .if_icmp .ge 44, 3), (117, .aload_n 0, 1), (118, .getfield 52, 3), (121, .iload_n 3, 1), (122, .aload_n 0, 1), (123, .getfield 52, 3), (126, .iload_n 3, 1), (127, .baload, 1), (128, .ifCond .eq 22, 3), (131, .aload_n 0, 1), (132, .getfield 49, 3), (135, .iload_n 3, 1), (136, .iaload, 1), (137, .aload_n 0, 1), (138, .getfield 46, 3), (141, .iload_n 3, 1), (142, .iaload, 1), (143, .if_icmp .ge 7, 3), (146, .iconst 1, 1), (147, .goto 4, 3), (150, .iconst 0, 1), (151, .bastore, 1), (152, .iinc 3 1, 3), (155, .goto (-46), 3), (158, .iinc 2 1, 3), (161, .goto (-80), 3), (164, .iconst (-1), 1), (165, .istore_n 2, 1), (166, .iconst 0, 1), (167, .istore_n 3, 1), (168, .iload_n 3, 1), (169, .aload_n 0, 1), (170, .invokevirtual 76, 3), (173, .if_icmp .ge 39, 3), (176, .aload_n 0, 1), (177, .getfield 52, 3), (180, .iload_n 3, 1), (181, .baload, 1), (182, .ifCond .eq 24, 3), (185, .iload_n 2, 1), (186, .ifCond .lt 18, 3), (189, .aload_n 0, 1), (190, .getfield 49, 3), (193, .iload_n 3, 1), (194, .iaload, 1), (195, .aload_n 0, 1), (196, .getfield 49, 3), (199, .iload_n 2, 1), (200, .iaload, 1), (201, .if_icmp .ge 5, 3), (204, .iload_n 3, 1), (205, .istore_n 2, 1), (206, .iinc 3 1, 3), (209, .goto (-41), 3), (212, .iload_n 2, 1), (213, .ireturn, 1)]
theorem dc279 : dcs (mC 279) il279 := dc_of (by decide +kernel)
def mo_sign_L32  (v1 : Int) (K1 : MM → OR) : Nat → Int → MM → OR
  | 0, _, _ => none
  | n + 1, v2, M => (bif cmpB .ge v2 10 then (K1  M) else (bif inB v2 10 then (bif inB v2 10 then (sM (mU M 176 (v2).toNat (M 175 (v2).toNat)) fun M_15 => (mo_sign_L32 v1 K1 n (v2 + 1) M_15)) else none) else none))
set_option maxRecDepth 4000 in
theorem mo_sign_L32_ok {Z : Nat × (Nat → Int)} {d : Nat} (hd : 2 ≤ d)  {v1 : Int} {K1 : MM → OR} {res : AR × MM} (k1 : ∀ (M : MM) (j2 j3 : AV), K1  M = some res → EX Z d 279 56 [vR 165, vI v1, j2, j3] [] M res) : ∀ (n : Nat) (v2 : Int) (M : MM) (j3 : AV), mo_sign_L32 v1 K1 n v2 M = some res → EX Z d 279 32 [vR 165, vI v1, vI v2, j3] [] M res := by
  obtain ⟨e9, rfl⟩ : ∃ e9, d = e9 + 1 := ⟨d - 1, by omega⟩
  intro n
  induction n with
  | zero =>
    intro v2 M j3 hf
    unfold mo_sign_L32 at hf
    cases hf
  | succ n ih =>
    intro v2 M j3 hf
    unfold mo_sign_L32 at hf
    refine ex_pu (ls' := [vR 165, vI v1, vI v2, j3]) (st' := [vI v2]) (dg dc279 20 rfl) rfl rfl ?_
    refine ex_pu (ls' := [vR 165, vI v1, vI v2, j3]) (st' := [vI 10, vI v2]) (dg dc279 21 rfl) rfl rfl ?_
    refine ex_icmp (t := 56) (dg dc279 22 rfl) rfl hf (fun _ hf => ?_) (fun _ hf => ?_)
    · exact k1  M _ _ hf
    · refine ex_pu (ls' := [vR 165, vI v1, vI v2, j3]) (st' := [vR 165]) (dg dc279 23 rfl) rfl rfl ?_
      refine ex_getO (dg dc279 24 rfl) rfl (LOC.st (Nat.le_of_ble_eq_true rfl) rfl) rfl ?_
      show EX Z _ 279 _ [vR 165, vI v1, vI v2, j3] [vR 176] _ _
      refine ex_pu (ls' := [vR 165, vI v1, vI v2, j3]) (st' := [vI v2, vR 176]) (dg dc279 25 rfl) rfl rfl ?_
      refine ex_pu (ls' := [vR 165, vI v1, vI v2, j3]) (st' := [vR 165, vI v2, vR 176]) (dg dc279 26 rfl) rfl rfl ?_
      refine ex_getO (dg dc279 27 rfl) rfl (LOC.st (Nat.le_of_ble_eq_true rfl) rfl) rfl ?_
      show EX Z _ 279 _ [vR 165, vI v1, vI v2, j3] [vR 175, vI v2, vR 176] _ _
      refine ex_pu (ls' := [vR 165, vI v1, vI v2, j3]) (st' := [vI v2, vR 175, vI v2, vR 176]) (dg dc279 28 rfl) rfl rfl ?_
      refine ex_iald (dg dc279 29 rfl) (LOC.st (Nat.le_of_ble_eq_true rfl) rfl) rfl hf (fun _ hf => ?_)
      refine ex_iast (dg dc279 30 rfl) (LOC.st (Nat.le_of_ble_eq_true rfl) rfl) rfl rfl hf (fun _ hf => ?_)
      refine ex_gen hf (fun M_15 hM_16 hf => ?_)
      refine ex_pu (ls' := [vR 165, vI v1, vI (v2 + 1), j3]) (st' := []) (dg dc279 31 rfl) rfl rfl ?_
      refine ex_goto (t := 32) (dg dc279 32 rfl) rfl rfl ?_
      exact ih (v2 + 1) M_15 _ hf
def mo_sign_L58  (v1 : Int) (K1 : MM → OR) : Nat → Int → MM → OR
  | 0, _, _ => none
  | n + 1, v2, M => (bI (mo_places  M) fun z_22 M_21 => (bif cmpB .ge v2 z_22 then (K1  M_21) else (bif inB v2 10 then (sM (mU M_21 177 (v2).toNat (nZ 1)) fun M_23 => (mo_sign_L58 v1 K1 n (v2 + 1) M_23)) else none)))
set_option maxRecDepth 4000 in
theorem mo_sign_L58_ok {Z : Nat × (Nat → Int)} {d : Nat} (hd : 2 ≤ d)  {v1 : Int} {K1 : MM → OR} {res : AR × MM} (k1 : ∀ (M : MM) (j2 j3 : AV), K1  M = some res → EX Z d 279 79 [vR 165, vI v1, j2, j3] [] M res) : ∀ (n : Nat) (v2 : Int) (M : MM) (j3 : AV), mo_sign_L58 v1 K1 n v2 M = some res → EX Z d 279 58 [vR 165, vI v1, vI v2, j3] [] M res := by
  obtain ⟨e9, rfl⟩ : ∃ e9, d = e9 + 1 := ⟨d - 1, by omega⟩
  intro n
  induction n with
  | zero =>
    intro v2 M j3 hf
    unfold mo_sign_L58 at hf
    cases hf
  | succ n ih =>
    intro v2 M j3 hf
    unfold mo_sign_L58 at hf
    refine ex_pu (ls' := [vR 165, vI v1, vI v2, j3]) (st' := [vI v2]) (dg dc279 35 rfl) rfl rfl ?_
    refine ex_pu (ls' := [vR 165, vI v1, vI v2, j3]) (st' := [vR 165, vI v2]) (dg dc279 36 rfl) rfl rfl ?_
    refine ex_cI (vs := [vR 165]) (st' := [vI v2]) (F := (mo_places  M)) (Or.inr (Or.inl ⟨rfl, (dg dc279 37 rfl)⟩)) rfl rfl (rk1 (LOC.st (Nat.le_of_ble_eq_true rfl) rfl) rfl) rfl (fun _ r9 => mo_places_ok (Z := Z) (d := e9) (by omega)  r9) hf (fun z_22 M_21 he_20 hf => ?_)
    refine ex_icmp (t := 79) (dg dc279 38 rfl) rfl hf (fun _ hf => ?_) (fun _ hf => ?_)
    · exact k1  M_21 _ _ hf
    · refine ex_pu (ls' := [vR 165, vI v1, vI v2, j3]) (st' := [vR 165]) (dg dc279 39 rfl) rfl rfl ?_
      refine ex_getO (dg dc279 40 rfl) rfl (LOC.st (Nat.le_of_ble_eq_true rfl) rfl) rfl ?_
      show EX Z _ 279 _ [vR 165, vI v1, vI v2, j3] [vR 177] _ _
      refine ex_pu (ls' := [vR 165, vI v1, vI v2, j3]) (st' := [vI v2, vR 177]) (dg dc279 41 rfl) rfl rfl ?_
      refine ex_pu (ls' := [vR 165, vI v1, vI v2, j3]) (st' := [vI 1, vI v2, vR 177]) (dg dc279 42 rfl) rfl rfl ?_
      refine ex_zast (dg dc279 43 rfl) (LOC.st (Nat.le_of_ble_eq_true rfl) rfl) rfl rfl hf (fun _ hf => ?_)
      refine ex_gen hf (fun M_23 hM_24 hf => ?_)
      refine ex_pu (ls' := [vR 165, vI v1, vI (v2 + 1), j3]) (st' := []) (dg dc279 44 rfl) rfl rfl ?_
      refine ex_goto (t := 58) (dg dc279 45 rfl) rfl rfl ?_
      exact ih (v2 + 1) M_23 _ hf
def mo_sign_L109  (v1 v2 : Int) (K1 : MM → OR) : Nat → Int → MM → OR
  | 0, _, _ => none
  | n + 1, v3, M => (bI (mo_places  M) fun z_39 M_38 => (bif cmpB .ge v3 z_39 then (K1  M_38) else (bif inB v3 10 then (bif cmpB .eq (M_38 177 (v3).toNat) 0 then (bif inB v3 10 then (sM (mU M_38 177 (v3).toNat (nZ 0)) fun M_40 => (mo_sign_L109 v1 v2 K1 n (v3 + 1) M_40)) else none) else (bif inB v3 10 then (bif inB v3 10 then (bif cmpB .ge (M_38 176 (v3).toNat) (M_38 175 (v3).toNat) then (bif inB v3 10 then (sM (mU M_38 177 (v3).toNat (nZ 0)) fun M_42 => (mo_sign_L109 v1 v2 K1 n (v3 + 1) M_42)) else none) else (bif inB v3 10 then (sM (mU M_38 177 (v3).toNat (nZ 1)) fun M_44 => (mo_sign_L109 v1 v2 K1 n (v3 + 1) M_44)) else none)) else none) else none)) else none)))
set_option maxRecDepth 4000 in
theorem mo_sign_L109_ok {Z : Nat × (Nat → Int)} {d : Nat} (hd : 2 ≤ d)  {v1 v2 : Int} {K1 : MM → OR} {res : AR × MM} (k1 : ∀ (M : MM) (j3 : AV), K1  M = some res → EX Z d 279 158 [vR 165, vI v1, vI v2, j3] [] M res) : ∀ (n : Nat) (v3 : Int) (M : MM), mo_sign_L109 v1 v2 K1 n v3 M = some res → EX Z d 279 109 [vR 165, vI v1, vI v2, vI v3] [] M res := by
  obtain ⟨e9, rfl⟩ : ∃ e9, d = e9 + 1 := ⟨d - 1, by omega⟩
  intro n
  induction n with
  | zero =>
    intro v3 M hf
    unfold mo_sign_L109 at hf
    cases hf
  | succ n ih =>
    intro v3 M hf
    unfold mo_sign_L109 at hf
    refine ex_pu (ls' := [vR 165, vI v1, vI v2, vI v3]) (st' := [vI v3]) (dg dc279 64 rfl) rfl rfl ?_
    refine ex_pu (ls' := [vR 165, vI v1, vI v2, vI v3]) (st' := [vR 165, vI v3]) (dg dc279 65 rfl) rfl rfl ?_
    refine ex_cI (vs := [vR 165]) (st' := [vI v3]) (F := (mo_places  M)) (Or.inr (Or.inl ⟨rfl, (dg dc279 66 rfl)⟩)) rfl rfl (rk1 (LOC.st (Nat.le_of_ble_eq_true rfl) rfl) rfl) rfl (fun _ r9 => mo_places_ok (Z := Z) (d := e9) (by omega)  r9) hf (fun z_39 M_38 he_37 hf => ?_)
    refine ex_icmp (t := 158) (dg dc279 67 rfl) rfl hf (fun _ hf => ?_) (fun _ hf => ?_)
    · exact k1  M_38 _ hf
    · refine ex_pu (ls' := [vR 165, vI v1, vI v2, vI v3]) (st' := [vR 165]) (dg dc279 68 rfl) rfl rfl ?_
      refine ex_getO (dg dc279 69 rfl) rfl (LOC.st (Nat.le_of_ble_eq_true rfl) rfl) rfl ?_
      show EX Z _ 279 _ [vR 165, vI v1, vI v2, vI v3] [vR 177] _ _
      refine ex_pu (ls' := [vR 165, vI v1, vI v2, vI v3]) (st' := [vI v3, vR 177]) (dg dc279 70 rfl) rfl rfl ?_
      refine ex_pu (ls' := [vR 165, vI v1, vI v2, vI v3]) (st' := [vR 165, vI v3, vR 177]) (dg dc279 71 rfl) rfl rfl ?_
      refine ex_getO (dg dc279 72 rfl) rfl (LOC.st (Nat.le_of_ble_eq_true rfl) rfl) rfl ?_
      show EX Z _ 279 _ [vR 165, vI v1, vI v2, vI v3] [vR 177, vI v3, vR 177] _ _
      refine ex_pu (ls' := [vR 165, vI v1, vI v2, vI v3]) (st' := [vI v3, vR 177, vI v3, vR 177]) (dg dc279 73 rfl) rfl rfl ?_
      refine ex_zald (dg dc279 74 rfl) (LOC.st (Nat.le_of_ble_eq_true rfl) rfl) rfl hf (fun _ hf => ?_)
      refine ex_if (t := 150) (dg dc279 75 rfl) rfl hf (fun _ hf => ?_) (fun _ hf => ?_)
      · refine ex_pu (ls' := [vR 165, vI v1, vI v2, vI v3]) (st' := [vI 0, vI v3, vR 177]) (dg dc279 87 rfl) rfl rfl ?_
        refine ex_zast (dg dc279 88 rfl) (LOC.st (Nat.le_of_ble_eq_true rfl) rfl) rfl rfl hf (fun _ hf => ?_)
        refine ex_gen hf (fun M_40 hM_41 hf => ?_)
        refine ex_pu (ls' := [vR 165, vI v1, vI v2, vI (v3 + 1)]) (st' := []) (dg dc279 89 rfl) rfl rfl ?_
        refine ex_goto (t := 109) (dg dc279 90 rfl) rfl rfl ?_
        exact ih (v3 + 1) M_40 hf
      · refine ex_pu (ls' := [vR 165, vI v1, vI v2, vI v3]) (st' := [vR 165, vI v3, vR 177]) (dg dc279 76 rfl) rfl rfl ?_
        refine ex_getO (dg dc279 77 rfl) rfl (LOC.st (Nat.le_of_ble_eq_true rfl) rfl) rfl ?_
        show EX Z _ 279 _ [vR 165, vI v1, vI v2, vI v3] [vR 176, vI v3, vR 177] _ _
        refine ex_pu (ls' := [vR 165, vI v1, vI v2, vI v3]) (st' := [vI v3, vR 176, vI v3, vR 177]) (dg dc279 78 rfl) rfl rfl ?_
        refine ex_iald (dg dc279 79 rfl) (LOC.st (Nat.le_of_ble_eq_true rfl) rfl) rfl hf (fun _ hf => ?_)
        refine ex_pu (ls' := [vR 165, vI v1, vI v2, vI v3]) (st' := [vR 165, vI (M_38 176 (v3).toNat), vI v3, vR 177]) (dg dc279 80 rfl) rfl rfl ?_
        refine ex_getO (dg dc279 81 rfl) rfl (LOC.st (Nat.le_of_ble_eq_true rfl) rfl) rfl ?_
        show EX Z _ 279 _ [vR 165, vI v1, vI v2, vI v3] [vR 175, vI (M_38 176 (v3).toNat), vI v3, vR 177] _ _
        refine ex_pu (ls' := [vR 165, vI v1, vI v2, vI v3]) (st' := [vI v3, vR 175, vI (M_38 176 (v3).toNat), vI v3, vR 177]) (dg dc279 82 rfl) rfl rfl ?_
        refine ex_iald (dg dc279 83 rfl) (LOC.st (Nat.le_of_ble_eq_true rfl) rfl) rfl hf (fun _ hf => ?_)
        refine ex_icmp (t := 150) (dg dc279 84 rfl) rfl hf (fun _ hf => ?_) (fun _ hf => ?_)
        · refine ex_pu (ls' := [vR 165, vI v1, vI v2, vI v3]) (st' := [vI 0, vI v3, vR 177]) (dg dc279 87 rfl) rfl rfl ?_
          refine ex_zast (dg dc279 88 rfl) (LOC.st (Nat.le_of_ble_eq_true rfl) rfl) rfl rfl hf (fun _ hf => ?_)
          refine ex_gen hf (fun M_42 hM_43 hf => ?_)
          refine ex_pu (ls' := [vR 165, vI v1, vI v2, vI (v3 + 1)]) (st' := []) (dg dc279 89 rfl) rfl rfl ?_
          refine ex_goto (t := 109) (dg dc279 90 rfl) rfl rfl ?_
          exact ih (v3 + 1) M_42 hf
        · refine ex_pu (ls' := [vR 165, vI v1, vI v2, vI v3]) (st' := [vI 1, vI v3, vR 177]) (dg dc279 85 rfl) rfl rfl ?_
          refine ex_goto (t := 151) (dg dc279 86 rfl) rfl rfl ?_
          refine ex_zast (dg dc279 88 rfl) (LOC.st (Nat.le_of_ble_eq_true rfl) rfl) rfl rfl hf (fun _ hf => ?_)
          refine ex_gen hf (fun M_44 hM_45 hf => ?_)
          refine ex_pu (ls' := [vR 165, vI v1, vI v2, vI (v3 + 1)]) (st' := []) (dg dc279 89 rfl) rfl rfl ?_
          refine ex_goto (t := 109) (dg dc279 90 rfl) rfl rfl ?_
          exact ih (v3 + 1) M_44 hf
def mo_sign_L81  (v1 : Int) (K1 : MM → OR) : Nat → Int → MM → OR
  | 0, _, _ => none
  | n + 1, v2, M => (bI (mo_brothers  M) fun z_30 M_29 => (bif cmpB .ge v2 z_30 then (K1  M_29) else (bif cmpB .ne v2 v1 then (bI (mo_ofBrother v2 0 M_29) fun z_33 M_32 => (bV (mo_laysFar z_33 M_32) fun M_35 => (mo_sign_L109 v1 v2 (fun M_46 => (mo_sign_L81 v1 K1 n (v2 + 1) M_46)) FU 0 M_35))) else (mo_sign_L81 v1 K1 n (v2 + 1) M_29))))
set_option maxRecDepth 4000 in
theorem mo_sign_L81_ok {Z : Nat × (Nat → Int)} {d : Nat} (hd : 2 ≤ d)  {v1 : Int} {K1 : MM → OR} {res : AR × MM} (k1 : ∀ (M : MM) (j1 j2 j3 : AV), K1  M = some res → EX Z d 279 164 [vR 165, j1, j2, j3] [] M res) : ∀ (n : Nat) (v2 : Int) (M : MM) (j3 : AV), mo_sign_L81 v1 K1 n v2 M = some res → EX Z d 279 81 [vR 165, vI v1, vI v2, j3] [] M res := by
  obtain ⟨e9, rfl⟩ : ∃ e9, d = e9 + 1 := ⟨d - 1, by omega⟩
  intro n
  induction n with
  | zero =>
    intro v2 M j3 hf
    unfold mo_sign_L81 at hf
    cases hf
  | succ n ih =>
    intro v2 M j3 hf
    unfold mo_sign_L81 at hf
    refine ex_pu (ls' := [vR 165, vI v1, vI v2, j3]) (st' := [vI v2]) (dg dc279 48 rfl) rfl rfl ?_
    refine ex_pu (ls' := [vR 165, vI v1, vI v2, j3]) (st' := [vR 165, vI v2]) (dg dc279 49 rfl) rfl rfl ?_
    refine ex_cI (vs := [vR 165]) (st' := [vI v2]) (F := (mo_brothers  M)) (Or.inr (Or.inl ⟨rfl, (dg dc279 50 rfl)⟩)) rfl rfl (rk1 (LOC.st (Nat.le_of_ble_eq_true rfl) rfl) rfl) rfl (fun _ r9 => mo_brothers_ok (Z := Z) (d := e9) (by omega)  r9) hf (fun z_30 M_29 he_28 hf => ?_)
    refine ex_icmp (t := 164) (dg dc279 51 rfl) rfl hf (fun _ hf => ?_) (fun _ hf => ?_)
    · exact k1  M_29 _ _ _ hf
    · refine ex_pu (ls' := [vR 165, vI v1, vI v2, j3]) (st' := [vI v2]) (dg dc279 52 rfl) rfl rfl ?_
      refine ex_pu (ls' := [vR 165, vI v1, vI v2, j3]) (st' := [vI v1, vI v2]) (dg dc279 53 rfl) rfl rfl ?_
      refine ex_icmp (t := 97) (dg dc279 54 rfl) rfl hf (fun _ hf => ?_) (fun _ hf => ?_)
      · refine ex_pu (ls' := [vR 165, vI v1, vI v2, j3]) (st' := [vR 165]) (dg dc279 56 rfl) rfl rfl ?_
        refine ex_pu (ls' := [vR 165, vI v1, vI v2, j3]) (st' := [vR 165, vR 165]) (dg dc279 57 rfl) rfl rfl ?_
        refine ex_pu (ls' := [vR 165, vI v1, vI v2, j3]) (st' := [vI v2, vR 165, vR 165]) (dg dc279 58 rfl) rfl rfl ?_
        refine ex_pu (ls' := [vR 165, vI v1, vI v2, j3]) (st' := [vI 0, vI v2, vR 165, vR 165]) (dg dc279 59 rfl) rfl rfl ?_
        refine ex_cI (vs := [vR 165, vI v2, vI 0]) (st' := [vR 165]) (F := (mo_ofBrother v2 0 M_29)) (Or.inr (Or.inl ⟨rfl, (dg dc279 60 rfl)⟩)) rfl rfl (rk1 (LOC.st (Nat.le_of_ble_eq_true rfl) rfl) rfl) rfl (fun _ r9 => mo_ofBrother_ok (Z := Z) (d := e9) (by omega)  r9) hf (fun z_33 M_32 he_31 hf => ?_)
        refine ex_cV (vs := [vR 165, vI z_33]) (st' := []) (F := (mo_laysFar z_33 M_32)) (Or.inr (Or.inl ⟨rfl, (dg dc279 61 rfl)⟩)) rfl rfl (rk1 (LOC.st (Nat.le_of_ble_eq_true rfl) rfl) rfl) rfl (fun _ r9 => mo_laysFar_ok (Z := Z) (d := e9) (by omega)  r9) hf (fun M_35 he_34 hf => ?_)
        refine ex_pu (ls' := [vR 165, vI v1, vI v2, j3]) (st' := [vI 0]) (dg dc279 62 rfl) rfl rfl ?_
        refine ex_pu (ls' := [vR 165, vI v1, vI v2, vI 0]) (st' := []) (dg dc279 63 rfl) rfl rfl ?_
        refine mo_sign_L109_ok hd  ?_ FU 0 M_35 hf
        · intro M_46 j3_47 hf
          refine ex_pu (ls' := [vR 165, vI v1, vI (v2 + 1), j3_47]) (st' := []) (dg dc279 91 rfl) rfl rfl ?_
          refine ex_goto (t := 81) (dg dc279 92 rfl) rfl rfl ?_
          exact ih (v2 + 1) M_46 _ hf
      · refine ex_goto (t := 158) (dg dc279 55 rfl) rfl rfl ?_
        refine ex_pu (ls' := [vR 165, vI v1, vI (v2 + 1), j3]) (st' := []) (dg dc279 91 rfl) rfl rfl ?_
        refine ex_goto (t := 81) (dg dc279 92 rfl) rfl rfl ?_
        exact ih (v2 + 1) M_29 _ hf
def mo_sign_L168  (K1 : Int → MM → OR) : Nat → Int → Int → MM → OR
  | 0, _, _, _ => none
  | n + 1, v2, v3, M => (bI (mo_places  M) fun z_55 M_54 => (bif cmpB .ge v3 z_55 then (K1 v2 M_54) else (bif inB v3 10 then (bif cmpB .eq (M_54 177 (v3).toNat) 0 then (mo_sign_L168  K1 n v2 (v3 + 1) M_54) else (bif cmpB .lt v2 0 then (mo_sign_L168  K1 n v3 (v3 + 1) M_54) else (bif inB v3 10 then (bif inB v2 10 then (bif cmpB .ge (M_54 176 (v3).toNat) (M_54 176 (v2).toNat) then (mo_sign_L168  K1 n v2 (v3 + 1) M_54) else (mo_sign_L168  K1 n v3 (v3 + 1) M_54)) else none) else none))) else none)))
set_option maxRecDepth 4000 in
theorem mo_sign_L168_ok {Z : Nat × (Nat → Int)} {d : Nat} (hd : 2 ≤ d)  {K1 : Int → MM → OR} {res : AR × MM} (k1 : ∀ (x2 : Int) (M : MM) (j0 j1 j3 : AV), K1 x2 M = some res → EX Z d 279 212 [j0, j1, vI x2, j3] [] M res) : ∀ (n : Nat) (v2 v3 : Int) (M : MM) (j1 : AV), mo_sign_L168  K1 n v2 v3 M = some res → EX Z d 279 168 [vR 165, j1, vI v2, vI v3] [] M res := by
  obtain ⟨e9, rfl⟩ : ∃ e9, d = e9 + 1 := ⟨d - 1, by omega⟩
  intro n
  induction n with
  | zero =>
    intro v2 v3 M j1 hf
    unfold mo_sign_L168 at hf
    cases hf
  | succ n ih =>
    intro v2 v3 M j1 hf
    unfold mo_sign_L168 at hf
    refine ex_pu (ls' := [vR 165, j1, vI v2, vI v3]) (st' := [vI v3]) (dg dc279 97 rfl) rfl rfl ?_
    refine ex_pu (ls' := [vR 165, j1, vI v2, vI v3]) (st' := [vR 165, vI v3]) (dg dc279 98 rfl) rfl rfl ?_
    refine ex_cI (vs := [vR 165]) (st' := [vI v3]) (F := (mo_places  M)) (Or.inr (Or.inl ⟨rfl, (dg dc279 99 rfl)⟩)) rfl rfl (rk1 (LOC.st (Nat.le_of_ble_eq_true rfl) rfl) rfl) rfl (fun _ r9 => mo_places_ok (Z := Z) (d := e9) (by omega)  r9) hf (fun z_55 M_54 he_53 hf => ?_)
    refine ex_icmp (t := 212) (dg dc279 100 rfl) rfl hf (fun _ hf => ?_) (fun _ hf => ?_)
    · exact k1 v2 M_54 _ _ _ hf
    · refine ex_pu (ls' := [vR 165, j1, vI v2, vI v3]) (st' := [vR 165]) (dg dc279 101 rfl) rfl rfl ?_
      refine ex_getO (dg dc279 102 rfl) rfl (LOC.st (Nat.le_of_ble_eq_true rfl) rfl) rfl ?_
      show EX Z _ 279 _ [vR 165, j1, vI v2, vI v3] [vR 177] _ _
      refine ex_pu (ls' := [vR 165, j1, vI v2, vI v3]) (st' := [vI v3, vR 177]) (dg dc279 103 rfl) rfl rfl ?_
      refine ex_zald (dg dc279 104 rfl) (LOC.st (Nat.le_of_ble_eq_true rfl) rfl) rfl hf (fun _ hf => ?_)
      refine ex_if (t := 206) (dg dc279 105 rfl) rfl hf (fun _ hf => ?_) (fun _ hf => ?_)
      · refine ex_pu (ls' := [vR 165, j1, vI v2, vI (v3 + 1)]) (st' := []) (dg dc279 119 rfl) rfl rfl ?_
        refine ex_goto (t := 168) (dg dc279 120 rfl) rfl rfl ?_
        exact ih v2 (v3 + 1) M_54 _ hf
      · refine ex_pu (ls' := [vR 165, j1, vI v2, vI v3]) (st' := [vI v2]) (dg dc279 106 rfl) rfl rfl ?_
        refine ex_if (t := 204) (dg dc279 107 rfl) rfl hf (fun _ hf => ?_) (fun _ hf => ?_)
        · refine ex_pu (ls' := [vR 165, j1, vI v2, vI v3]) (st' := [vI v3]) (dg dc279 117 rfl) rfl rfl ?_
          refine ex_istDn (dg dc279 118 rfl) rfl rfl (fun w_56 => ?_)
          show EX Z _ 279 _ [vR 165, w_56, vI v3, vI v3] [] _ _
          refine ex_pu (ls' := [vR 165, w_56, vI v3, vI (v3 + 1)]) (st' := []) (dg dc279 119 rfl) rfl rfl ?_
          refine ex_goto (t := 168) (dg dc279 120 rfl) rfl rfl ?_
          exact ih v3 (v3 + 1) M_54 _ hf
        · refine ex_pu (ls' := [vR 165, j1, vI v2, vI v3]) (st' := [vR 165]) (dg dc279 108 rfl) rfl rfl ?_
          refine ex_getO (dg dc279 109 rfl) rfl (LOC.st (Nat.le_of_ble_eq_true rfl) rfl) rfl ?_
          show EX Z _ 279 _ [vR 165, j1, vI v2, vI v3] [vR 176] _ _
          refine ex_pu (ls' := [vR 165, j1, vI v2, vI v3]) (st' := [vI v3, vR 176]) (dg dc279 110 rfl) rfl rfl ?_
          refine ex_iald (dg dc279 111 rfl) (LOC.st (Nat.le_of_ble_eq_true rfl) rfl) rfl hf (fun _ hf => ?_)
          refine ex_pu (ls' := [vR 165, j1, vI v2, vI v3]) (st' := [vR 165, vI (M_54 176 (v3).toNat)]) (dg dc279 112 rfl) rfl rfl ?_
          refine ex_getO (dg dc279 113 rfl) rfl (LOC.st (Nat.le_of_ble_eq_true rfl) rfl) rfl ?_
          show EX Z _ 279 _ [vR 165, j1, vI v2, vI v3] [vR 176, vI (M_54 176 (v3).toNat)] _ _
          refine ex_pu (ls' := [vR 165, j1, vI v2, vI v3]) (st' := [vI v2, vR 176, vI (M_54 176 (v3).toNat)]) (dg dc279 114 rfl) rfl rfl ?_
          refine ex_iald (dg dc279 115 rfl) (LOC.st (Nat.le_of_ble_eq_true rfl) rfl) rfl hf (fun _ hf => ?_)
          refine ex_icmp (t := 206) (dg dc279 116 rfl) rfl hf (fun _ hf => ?_) (fun _ hf => ?_)
          · refine ex_pu (ls' := [vR 165, j1, vI v2, vI (v3 + 1)]) (st' := []) (dg dc279 119 rfl) rfl rfl ?_
            refine ex_goto (t := 168) (dg dc279 120 rfl) rfl rfl ?_
            exact ih v2 (v3 + 1) M_54 _ hf
          · refine ex_pu (ls' := [vR 165, j1, vI v2, vI v3]) (st' := [vI v3]) (dg dc279 117 rfl) rfl rfl ?_
            refine ex_istDn (dg dc279 118 rfl) rfl rfl (fun w_57 => ?_)
            show EX Z _ 279 _ [vR 165, w_57, vI v3, vI v3] [] _ _
            refine ex_pu (ls' := [vR 165, w_57, vI v3, vI (v3 + 1)]) (st' := []) (dg dc279 119 rfl) rfl rfl ?_
            refine ex_goto (t := 168) (dg dc279 120 rfl) rfl rfl ?_
            exact ih v3 (v3 + 1) M_54 _ hf
def mo_sign (v1 : Int) (M : MM) : OR :=
  (sM (mU M 165 0 0) fun M_1 => (bI (mo_noBrother v1 M_1) fun z_5 M_4 => (bI (mo_throwsIf z_5 1 M_4) fun z_8 M_7 => (bif cmpB .eq z_8 0 then (bI (mo_ofBrother v1 0 M_7) fun z_11 M_10 => (bV (mo_laysFar z_11 M_10) fun M_13 => (mo_sign_L32 v1 (fun M_17 => (mo_sign_L58 v1 (fun M_25 => (mo_sign_L81 v1 (fun M_48 => (mo_sign_L168  (fun v2_58 M_59 => some (rI v2_58, M_59)) FU (-1) 0 M_48)) FU 0 M_25)) FU 0 M_17)) FU 0 M_13))) else some (rI 0, M_7)))))
set_option maxRecDepth 4000 in
theorem mo_sign_ok {Z : Nat × (Nat → Int)} {d : Nat} (hd : 2 ≤ d) {M : MM}  {v1 : Int} {res : AR × MM} (hf : mo_sign v1 M = some res) : EX Z d 279 0 (ent 279 [vR 165, vI v1]) [] M res := by
  obtain ⟨e9, rfl⟩ : ∃ e9, d = e9 + 1 := ⟨d - 1, by omega⟩
  unfold mo_sign at hf
  show EX Z _ 279 0 [vR 165, vI v1, vU, vU] [] M res
  refine ex_pu (ls' := [vR 165, vI v1, vU, vU]) (st' := [vR 165]) (dg dc279 0 rfl) rfl rfl ?_
  refine ex_pu (ls' := [vR 165, vI v1, vU, vU]) (st' := [vI 0, vR 165]) (dg dc279 1 rfl) rfl rfl ?_
  refine ex_putI (dg dc279 2 rfl) rfl (LOC.st (Nat.le_of_ble_eq_true rfl) rfl) rfl rfl rfl ?_
  refine ex_gen hf (fun M_1 hM_2 hf => ?_)
  refine ex_pu (ls' := [vR 165, vI v1, vU, vU]) (st' := [vR 165]) (dg dc279 3 rfl) rfl rfl ?_
  refine ex_pu (ls' := [vR 165, vI v1, vU, vU]) (st' := [vR 165, vR 165]) (dg dc279 4 rfl) rfl rfl ?_
  refine ex_pu (ls' := [vR 165, vI v1, vU, vU]) (st' := [vI v1, vR 165, vR 165]) (dg dc279 5 rfl) rfl rfl ?_
  refine ex_cI (vs := [vR 165, vI v1]) (st' := [vR 165]) (F := (mo_noBrother v1 M_1)) (Or.inr (Or.inl ⟨rfl, (dg dc279 6 rfl)⟩)) rfl rfl (rk1 (LOC.st (Nat.le_of_ble_eq_true rfl) rfl) rfl) rfl (fun _ r9 => mo_noBrother_ok (Z := Z) (d := e9) (by omega)  r9) hf (fun z_5 M_4 he_3 hf => ?_)
  refine ex_pu (ls' := [vR 165, vI v1, vU, vU]) (st' := [vI 1, vI z_5, vR 165]) (dg dc279 7 rfl) rfl rfl ?_
  refine ex_cI (vs := [vR 165, vI z_5, vI 1]) (st' := []) (F := (mo_throwsIf z_5 1 M_4)) (Or.inr (Or.inl ⟨rfl, (dg dc279 8 rfl)⟩)) rfl rfl (rk1 (LOC.st (Nat.le_of_ble_eq_true rfl) rfl) rfl) rfl (fun _ r9 => mo_throwsIf_ok (Z := Z) (d := e9) (by omega)  r9) hf (fun z_8 M_7 he_6 hf => ?_)
  refine ex_if (t := 20) (dg dc279 9 rfl) rfl hf (fun _ hf => ?_) (fun _ hf => ?_)
  · refine ex_pu (ls' := [vR 165, vI v1, vU, vU]) (st' := [vR 165]) (dg dc279 12 rfl) rfl rfl ?_
    refine ex_pu (ls' := [vR 165, vI v1, vU, vU]) (st' := [vR 165, vR 165]) (dg dc279 13 rfl) rfl rfl ?_
    refine ex_pu (ls' := [vR 165, vI v1, vU, vU]) (st' := [vI v1, vR 165, vR 165]) (dg dc279 14 rfl) rfl rfl ?_
    refine ex_pu (ls' := [vR 165, vI v1, vU, vU]) (st' := [vI 0, vI v1, vR 165, vR 165]) (dg dc279 15 rfl) rfl rfl ?_
    refine ex_cI (vs := [vR 165, vI v1, vI 0]) (st' := [vR 165]) (F := (mo_ofBrother v1 0 M_7)) (Or.inr (Or.inl ⟨rfl, (dg dc279 16 rfl)⟩)) rfl rfl (rk1 (LOC.st (Nat.le_of_ble_eq_true rfl) rfl) rfl) rfl (fun _ r9 => mo_ofBrother_ok (Z := Z) (d := e9) (by omega)  r9) hf (fun z_11 M_10 he_9 hf => ?_)
    refine ex_cV (vs := [vR 165, vI z_11]) (st' := []) (F := (mo_laysFar z_11 M_10)) (Or.inr (Or.inl ⟨rfl, (dg dc279 17 rfl)⟩)) rfl rfl (rk1 (LOC.st (Nat.le_of_ble_eq_true rfl) rfl) rfl) rfl (fun _ r9 => mo_laysFar_ok (Z := Z) (d := e9) (by omega)  r9) hf (fun M_13 he_12 hf => ?_)
    refine ex_pu (ls' := [vR 165, vI v1, vU, vU]) (st' := [vI 0]) (dg dc279 18 rfl) rfl rfl ?_
    refine ex_pu (ls' := [vR 165, vI v1, vI 0, vU]) (st' := []) (dg dc279 19 rfl) rfl rfl ?_
    refine mo_sign_L32_ok hd  ?_ FU 0 M_13 _ hf
    · intro M_17 j2_18 j3_19 hf
      refine ex_pu (ls' := [vR 165, vI v1, j2_18, j3_19]) (st' := [vI 0]) (dg dc279 33 rfl) rfl rfl ?_
      refine ex_pu (ls' := [vR 165, vI v1, vI 0, j3_19]) (st' := []) (dg dc279 34 rfl) rfl rfl ?_
      refine mo_sign_L58_ok hd  ?_ FU 0 M_17 _ hf
      · intro M_25 j2_26 j3_27 hf
        refine ex_pu (ls' := [vR 165, vI v1, j2_26, j3_27]) (st' := [vI 0]) (dg dc279 46 rfl) rfl rfl ?_
        refine ex_pu (ls' := [vR 165, vI v1, vI 0, j3_27]) (st' := []) (dg dc279 47 rfl) rfl rfl ?_
        refine mo_sign_L81_ok hd  ?_ FU 0 M_25 _ hf
        · intro M_48 j1_49 j2_50 j3_51 hf
          refine ex_pu (ls' := [vR 165, j1_49, j2_50, j3_51]) (st' := [vI (-1)]) (dg dc279 93 rfl) rfl rfl ?_
          refine ex_istDn (dg dc279 94 rfl) rfl rfl (fun w_52 => ?_)
          show EX Z _ 279 _ [vR 165, w_52, vI (-1), j3_51] [] _ _
          refine ex_pu (ls' := [vR 165, w_52, vI (-1), j3_51]) (st' := [vI 0]) (dg dc279 95 rfl) rfl rfl ?_
          refine ex_pu (ls' := [vR 165, w_52, vI (-1), vI 0]) (st' := []) (dg dc279 96 rfl) rfl rfl ?_
          refine mo_sign_L168_ok hd  ?_ FU (-1) 0 M_48 _ hf
          · intro v2_58 M_59 j0_60 j1_61 j3_62 hf
            refine ex_pu (ls' := [j0_60, j1_61, vI v2_58, j3_62]) (st' := [vI v2_58]) (dg dc279 121 rfl) rfl rfl ?_
            exact ex_ire (dg dc279 122 rfl) rfl hf
  · refine ex_pu (ls' := [vR 165, vI v1, vU, vU]) (st' := [vI 0]) (dg dc279 10 rfl) rfl rfl ?_
    exact ex_ire (dg dc279 11 rfl) rfl hf
-- GlassHillModel.lateness
def il280 : List (Nat × Instr × Nat) := [(0, .iconst (-1), 1), (1, .istore_n 2, 1), (2, .iconst 0, 1), (3, .istore_n 3, 1), (4, .iconst 0, 1), (5, .istore 4, 2), (7, .iload 4, 2), (9, .iload_n 1, 1), (10, .if_icmp .ge 46, 3), (13, .iload_n 2, 1), (14, .iconst 1, 1), (15, .iadd, 1), (16, .aload_n 0, 1), (17, .aload_n 0, 1), (18, .getfield 56, 3), (21, .iload 4, 2), (23, .iaload, 1), (24, .invokevirtual 408, 3), (27, .invokestatic 469, 3), (30, .istore_n 2, 1), (31, .iload_n 3, 1), (32, .iload_n 2, 1), (33, .aload_n 0, 1), (34, .aload_n 0, 1), (35, .getfield 56, 3), (38, .iload 4, 2), (40, .iaload, 1), (41, .iconst 4, 1), (42, .invokevirtual 287, 3), (45, .isub, 1), (46, .invokestatic 469, 3), (49, .istore_n 3, 1), (50, .iinc 4 1, 3), (53, .goto (-46), 3), (56, .iload_n 3, 1), (57, .ireturn, 1)]
theorem dc280 : dcs (mC 280) il280 := dc_of (by decide +kernel)
def mo_lateness_L7  (v1 : Int) (K1 : Int → MM → OR) : Nat → Int → Int → Int → MM → OR
  | 0, _, _, _, _ => none
  | n + 1, v2, v3, v4, M => (bif cmpB .ge v4 v1 then (K1 v3 M) else (bif inB v4 7 then (bI (mo_homeOf (M 178 (v4).toNat) M) fun z_3 M_2 => (bif inB v4 7 then (bI (mo_ofBrother (M_2 178 (v4).toNat) 4 M_2) fun z_6 M_5 => (mo_lateness_L7 v1 K1 n (imax (v2 + 1) z_3) (imax v3 ((imax (v2 + 1) z_3) - z_6)) (v4 + 1) M_5)) else none)) else none))
set_option maxRecDepth 4000 in
theorem mo_lateness_L7_ok {Z : Nat × (Nat → Int)} {d : Nat} (hd : 2 ≤ d)  {v1 : Int} {K1 : Int → MM → OR} {res : AR × MM} (k1 : ∀ (x3 : Int) (M : MM) (j0 j1 j2 j4 : AV), K1 x3 M = some res → EX Z d 280 56 [j0, j1, j2, vI x3, j4] [] M res) : ∀ (n : Nat) (v2 v3 v4 : Int) (M : MM), mo_lateness_L7 v1 K1 n v2 v3 v4 M = some res → EX Z d 280 7 [vR 165, vI v1, vI v2, vI v3, vI v4] [] M res := by
  obtain ⟨e9, rfl⟩ : ∃ e9, d = e9 + 1 := ⟨d - 1, by omega⟩
  intro n
  induction n with
  | zero =>
    intro v2 v3 v4 M hf
    unfold mo_lateness_L7 at hf
    cases hf
  | succ n ih =>
    intro v2 v3 v4 M hf
    unfold mo_lateness_L7 at hf
    refine ex_pu (ls' := [vR 165, vI v1, vI v2, vI v3, vI v4]) (st' := [vI v4]) (dg dc280 6 rfl) rfl rfl ?_
    refine ex_pu (ls' := [vR 165, vI v1, vI v2, vI v3, vI v4]) (st' := [vI v1, vI v4]) (dg dc280 7 rfl) rfl rfl ?_
    refine ex_icmp (t := 56) (dg dc280 8 rfl) rfl hf (fun _ hf => ?_) (fun _ hf => ?_)
    · exact k1 v3 M _ _ _ _ hf
    · refine ex_pu (ls' := [vR 165, vI v1, vI v2, vI v3, vI v4]) (st' := [vI v2]) (dg dc280 9 rfl) rfl rfl ?_
      refine ex_pu (ls' := [vR 165, vI v1, vI v2, vI v3, vI v4]) (st' := [vI 1, vI v2]) (dg dc280 10 rfl) rfl rfl ?_
      refine ex_pu (ls' := [vR 165, vI v1, vI v2, vI v3, vI v4]) (st' := [vI (v2 + 1)]) (dg dc280 11 rfl) rfl rfl ?_
      refine ex_pu (ls' := [vR 165, vI v1, vI v2, vI v3, vI v4]) (st' := [vR 165, vI (v2 + 1)]) (dg dc280 12 rfl) rfl rfl ?_
      refine ex_pu (ls' := [vR 165, vI v1, vI v2, vI v3, vI v4]) (st' := [vR 165, vR 165, vI (v2 + 1)]) (dg dc280 13 rfl) rfl rfl ?_
      refine ex_getO (dg dc280 14 rfl) rfl (LOC.st (Nat.le_of_ble_eq_true rfl) rfl) rfl ?_
      show EX Z _ 280 _ [vR 165, vI v1, vI v2, vI v3, vI v4] [vR 178, vR 165, vI (v2 + 1)] _ _
      refine ex_pu (ls' := [vR 165, vI v1, vI v2, vI v3, vI v4]) (st' := [vI v4, vR 178, vR 165, vI (v2 + 1)]) (dg dc280 15 rfl) rfl rfl ?_
      refine ex_iald (dg dc280 16 rfl) (LOC.st (Nat.le_of_ble_eq_true rfl) rfl) rfl hf (fun _ hf => ?_)
      refine ex_cI (vs := [vR 165, vI (M 178 (v4).toNat)]) (st' := [vI (v2 + 1)]) (F := (mo_homeOf (M 178 (v4).toNat) M)) (Or.inr (Or.inl ⟨rfl, (dg dc280 17 rfl)⟩)) rfl rfl (rk1 (LOC.st (Nat.le_of_ble_eq_true rfl) rfl) rfl) rfl (fun _ r9 => mo_homeOf_ok (Z := Z) (d := e9) (by omega)  r9) hf (fun z_3 M_2 he_1 hf => ?_)
      refine ex_max (dg dc280 18 rfl) rfl rfl ?_
      refine ex_pu (ls' := [vR 165, vI v1, vI (imax (v2 + 1) z_3), vI v3, vI v4]) (st' := []) (dg dc280 19 rfl) rfl rfl ?_
      refine ex_pu (ls' := [vR 165, vI v1, vI (imax (v2 + 1) z_3), vI v3, vI v4]) (st' := [vI v3]) (dg dc280 20 rfl) rfl rfl ?_
      refine ex_pu (ls' := [vR 165, vI v1, vI (imax (v2 + 1) z_3), vI v3, vI v4]) (st' := [vI (imax (v2 + 1) z_3), vI v3]) (dg dc280 21 rfl) rfl rfl ?_
      refine ex_pu (ls' := [vR 165, vI v1, vI (imax (v2 + 1) z_3), vI v3, vI v4]) (st' := [vR 165, vI (imax (v2 + 1) z_3), vI v3]) (dg dc280 22 rfl) rfl rfl ?_
      refine ex_pu (ls' := [vR 165, vI v1, vI (imax (v2 + 1) z_3), vI v3, vI v4]) (st' := [vR 165, vR 165, vI (imax (v2 + 1) z_3), vI v3]) (dg dc280 23 rfl) rfl rfl ?_
      refine ex_getO (dg dc280 24 rfl) rfl (LOC.st (Nat.le_of_ble_eq_true rfl) rfl) rfl ?_
      show EX Z _ 280 _ [vR 165, vI v1, vI (imax (v2 + 1) z_3), vI v3, vI v4] [vR 178, vR 165, vI (imax (v2 + 1) z_3), vI v3] _ _
      refine ex_pu (ls' := [vR 165, vI v1, vI (imax (v2 + 1) z_3), vI v3, vI v4]) (st' := [vI v4, vR 178, vR 165, vI (imax (v2 + 1) z_3), vI v3]) (dg dc280 25 rfl) rfl rfl ?_
      refine ex_iald (dg dc280 26 rfl) (LOC.st (Nat.le_of_ble_eq_true rfl) rfl) rfl hf (fun _ hf => ?_)
      refine ex_pu (ls' := [vR 165, vI v1, vI (imax (v2 + 1) z_3), vI v3, vI v4]) (st' := [vI 4, vI (M_2 178 (v4).toNat), vR 165, vI (imax (v2 + 1) z_3), vI v3]) (dg dc280 27 rfl) rfl rfl ?_
      refine ex_cI (vs := [vR 165, vI (M_2 178 (v4).toNat), vI 4]) (st' := [vI (imax (v2 + 1) z_3), vI v3]) (F := (mo_ofBrother (M_2 178 (v4).toNat) 4 M_2)) (Or.inr (Or.inl ⟨rfl, (dg dc280 28 rfl)⟩)) rfl rfl (rk1 (LOC.st (Nat.le_of_ble_eq_true rfl) rfl) rfl) rfl (fun _ r9 => mo_ofBrother_ok (Z := Z) (d := e9) (by omega)  r9) hf (fun z_6 M_5 he_4 hf => ?_)
      refine ex_pu (ls' := [vR 165, vI v1, vI (imax (v2 + 1) z_3), vI v3, vI v4]) (st' := [vI ((imax (v2 + 1) z_3) - z_6), vI v3]) (dg dc280 29 rfl) rfl rfl ?_
      refine ex_max (dg dc280 30 rfl) rfl rfl ?_
      refine ex_pu (ls' := [vR 165, vI v1, vI (imax (v2 + 1) z_3), vI (imax v3 ((imax (v2 + 1) z_3) - z_6)), vI v4]) (st' := []) (dg dc280 31 rfl) rfl rfl ?_
      refine ex_pu (ls' := [vR 165, vI v1, vI (imax (v2 + 1) z_3), vI (imax v3 ((imax (v2 + 1) z_3) - z_6)), vI (v4 + 1)]) (st' := []) (dg dc280 32 rfl) rfl rfl ?_
      refine ex_goto (t := 7) (dg dc280 33 rfl) rfl rfl ?_
      exact ih (imax (v2 + 1) z_3) (imax v3 ((imax (v2 + 1) z_3) - z_6)) (v4 + 1) M_5 hf
def mo_lateness (v1 : Int) (M : MM) : OR :=
  (mo_lateness_L7 v1 (fun v3_7 M_8 => some (rI v3_7, M_8)) FU (-1) 0 0 M)
set_option maxRecDepth 4000 in
theorem mo_lateness_ok {Z : Nat × (Nat → Int)} {d : Nat} (hd : 2 ≤ d) {M : MM}  {v1 : Int} {res : AR × MM} (hf : mo_lateness v1 M = some res) : EX Z d 280 0 (ent 280 [vR 165, vI v1]) [] M res := by
  obtain ⟨e9, rfl⟩ : ∃ e9, d = e9 + 1 := ⟨d - 1, by omega⟩
  unfold mo_lateness at hf
  show EX Z _ 280 0 [vR 165, vI v1, vU, vU, vU] [] M res
  refine ex_pu (ls' := [vR 165, vI v1, vU, vU, vU]) (st' := [vI (-1)]) (dg dc280 0 rfl) rfl rfl ?_
  refine ex_pu (ls' := [vR 165, vI v1, vI (-1), vU, vU]) (st' := []) (dg dc280 1 rfl) rfl rfl ?_
  refine ex_pu (ls' := [vR 165, vI v1, vI (-1), vU, vU]) (st' := [vI 0]) (dg dc280 2 rfl) rfl rfl ?_
  refine ex_pu (ls' := [vR 165, vI v1, vI (-1), vI 0, vU]) (st' := []) (dg dc280 3 rfl) rfl rfl ?_
  refine ex_pu (ls' := [vR 165, vI v1, vI (-1), vI 0, vU]) (st' := [vI 0]) (dg dc280 4 rfl) rfl rfl ?_
  refine ex_pu (ls' := [vR 165, vI v1, vI (-1), vI 0, vI 0]) (st' := []) (dg dc280 5 rfl) rfl rfl ?_
  refine mo_lateness_L7_ok hd  ?_ FU (-1) 0 0 M hf
  · intro v3_7 M_8 j0_9 j1_10 j2_11 j4_12 hf
    refine ex_pu (ls' := [j0_9, j1_10, j2_11, vI v3_7, j4_12]) (st' := [vI v3_7]) (dg dc280 34 rfl) rfl rfl ?_
    exact ex_ire (dg dc280 35 rfl) rfl hf
-- GlassHillModel.swaps
def il281 : List (Nat × Instr × Nat) := [(0, .aload_n 0, 1), (1, .getfield 56, 3), (4, .iload_n 1, 1), (5, .iaload, 1), (6, .istore_n 3, 1), (7, .aload_n 0, 1), (8, .getfield 56, 3), (11, .iload_n 1, 1), (12, .aload_n 0, 1), (13, .getfield 56, 3), (16, .iload_n 2, 1), (17, .iaload, 1), (18, .iastore, 1), (19, .aload_n 0, 1), (20, .getfield 56, 3), (23, .iload_n 2, 1), (24, .iload_n 3, 1), (25, .iastore, 1), (26, .return_, 1)]
theorem dc281 : dcs (mC 281) il281 := dc_of (by decide +kernel)
def mo_swaps (v1 : Int) (v2 : Int) (M : MM) : OR :=
  (bif inB v1 7 then (bif inB v2 7 then (bif inB v1 7 then (sM (mU M 178 (v1).toNat (M 178 (v2).toNat)) fun M_1 => (bif inB v2 7 then (sM (mU M_1 178 (v2).toNat (M 178 (v1).toNat)) fun M_3 => some (rV, M_3)) else none)) else none) else none) else none)
set_option maxRecDepth 4000 in
theorem mo_swaps_ok {Z : Nat × (Nat → Int)} {d : Nat} (hd : 0 ≤ d) {M : MM}  {v1 v2 : Int} {res : AR × MM} (hf : mo_swaps v1 v2 M = some res) : EX Z d 281 0 (ent 281 [vR 165, vI v1, vI v2]) [] M res := by
  unfold mo_swaps at hf
  show EX Z _ 281 0 [vR 165, vI v1, vI v2, vU] [] M res
  refine ex_pu (ls' := [vR 165, vI v1, vI v2, vU]) (st' := [vR 165]) (dg dc281 0 rfl) rfl rfl ?_
  refine ex_getO (dg dc281 1 rfl) rfl (LOC.st (Nat.le_of_ble_eq_true rfl) rfl) rfl ?_
  show EX Z _ 281 _ [vR 165, vI v1, vI v2, vU] [vR 178] _ _
  refine ex_pu (ls' := [vR 165, vI v1, vI v2, vU]) (st' := [vI v1, vR 178]) (dg dc281 2 rfl) rfl rfl ?_
  refine ex_iald (dg dc281 3 rfl) (LOC.st (Nat.le_of_ble_eq_true rfl) rfl) rfl hf (fun _ hf => ?_)
  refine ex_pu (ls' := [vR 165, vI v1, vI v2, vI (M 178 (v1).toNat)]) (st' := []) (dg dc281 4 rfl) rfl rfl ?_
  refine ex_pu (ls' := [vR 165, vI v1, vI v2, vI (M 178 (v1).toNat)]) (st' := [vR 165]) (dg dc281 5 rfl) rfl rfl ?_
  refine ex_getO (dg dc281 6 rfl) rfl (LOC.st (Nat.le_of_ble_eq_true rfl) rfl) rfl ?_
  show EX Z _ 281 _ [vR 165, vI v1, vI v2, vI (M 178 (v1).toNat)] [vR 178] _ _
  refine ex_pu (ls' := [vR 165, vI v1, vI v2, vI (M 178 (v1).toNat)]) (st' := [vI v1, vR 178]) (dg dc281 7 rfl) rfl rfl ?_
  refine ex_pu (ls' := [vR 165, vI v1, vI v2, vI (M 178 (v1).toNat)]) (st' := [vR 165, vI v1, vR 178]) (dg dc281 8 rfl) rfl rfl ?_
  refine ex_getO (dg dc281 9 rfl) rfl (LOC.st (Nat.le_of_ble_eq_true rfl) rfl) rfl ?_
  show EX Z _ 281 _ [vR 165, vI v1, vI v2, vI (M 178 (v1).toNat)] [vR 178, vI v1, vR 178] _ _
  refine ex_pu (ls' := [vR 165, vI v1, vI v2, vI (M 178 (v1).toNat)]) (st' := [vI v2, vR 178, vI v1, vR 178]) (dg dc281 10 rfl) rfl rfl ?_
  refine ex_iald (dg dc281 11 rfl) (LOC.st (Nat.le_of_ble_eq_true rfl) rfl) rfl hf (fun _ hf => ?_)
  refine ex_iast (dg dc281 12 rfl) (LOC.st (Nat.le_of_ble_eq_true rfl) rfl) rfl rfl hf (fun _ hf => ?_)
  refine ex_gen hf (fun M_1 hM_2 hf => ?_)
  refine ex_pu (ls' := [vR 165, vI v1, vI v2, vI (M 178 (v1).toNat)]) (st' := [vR 165]) (dg dc281 13 rfl) rfl rfl ?_
  refine ex_getO (dg dc281 14 rfl) rfl (LOC.st (Nat.le_of_ble_eq_true rfl) rfl) rfl ?_
  show EX Z _ 281 _ [vR 165, vI v1, vI v2, vI (M 178 (v1).toNat)] [vR 178] _ _
  refine ex_pu (ls' := [vR 165, vI v1, vI v2, vI (M 178 (v1).toNat)]) (st' := [vI v2, vR 178]) (dg dc281 15 rfl) rfl rfl ?_
  refine ex_pu (ls' := [vR 165, vI v1, vI v2, vI (M 178 (v1).toNat)]) (st' := [vI (M 178 (v1).toNat), vI v2, vR 178]) (dg dc281 16 rfl) rfl rfl ?_
  refine ex_iast (dg dc281 17 rfl) (LOC.st (Nat.le_of_ble_eq_true rfl) rfl) rfl rfl hf (fun _ hf => ?_)
  refine ex_gen hf (fun M_3 hM_4 hf => ?_)
  exact ex_vre (dg dc281 18 rfl) rfl hf
-- GlassHillModel.nextOrder
def il282 : List (Nat × Instr × Nat) := [(0, .iload_n 1, 1), (1, .iconst 2, 1), (2, .isub, 1), (3, .istore_n 2, 1), (4, .iload_n 2, 1), (5, .ifCond .lt 26, 3), (8, .aload_n 0, 1), (9, .getfield 56, 3), (12, .iload_n 2, 1), (13, .iaload, 1), (14, .aload_n 0, 1), (15, .getfield 56, 3), (18, .iload_n 2, 1), (19, .iconst 1, 1), (20, .iadd, 1), (21, .iaload, 1), (22, .if_icmp .le 9, 3), (25, .iinc 2 (-1), 3), (28, .goto (-24), 3), (31, .iload_n 2, 1), (32, .ifCond .ge 5, 3), (35, .iconst 0, 1), (36, .ireturn, 1), (37, .iload_n 1, 1), (38, .iconst 1, 1), (39, .isub, 1), (40, .istore_n 3, 1), (41, .aload_n 0, 1), (42, .getfield 56, 3), (45, .iload_n 3, 1), (46, .iaload, 1), (47, .aload_n 0, 1), (48, .getfield 56, 3), (51, .iload_n 2, 1), (52, .iaload, 1), (53, .if_icmp .ge 9, 3), (56, .iinc 3 (-1), 3), (59, .goto (-18), 3), (62, .aload_n 0, 1), (63, .iload_n 2, 1), (64, .iload_n 3, 1), (65, .invokevirtual 475, 3), (68, .iload_n 2, 1), (69, .iconst 1, 1), (70, .iadd, 1), (71, .istore 4, 2), (73, .iload_n 1, 1), (74, .iconst 1, 1), (75, .isub, 1), (76, .istore 5, 2), (78, .iload 4, 2), (80, .iload 5, 2), (82, .if_icmp .ge 20, 3), (85, .aload_n 0, 1), (86, .iload 4, 2), (88, .iload 5, 2), (90, .invokevirtual 475, 3), (93, .iinc 4 1, 3), (96, .iinc 5 (-1), 3), (99, .goto (-21), 3), (102, .iconst 1, 1), (103, .ireturn, 1)]
theorem dc282 : dcs (mC 282) il282 := dc_of (by decide +kernel)
def mo_nextOrder_L4  (v1 : Int) (K1 : Int → MM → OR) : Nat → Int → MM → OR
  | 0, _, _ => none
  | n + 1, v2, M => (bif cmpB .lt v2 0 then (K1 v2 M) else (bif inB v2 7 then (bif inB (v2 + 1) 7 then (bif cmpB .le (M 178 (v2).toNat) (M 178 ((v2 + 1)).toNat) then (K1 v2 M) else (mo_nextOrder_L4 v1 K1 n (v2 + (-1)) M)) else none) else none))
set_option maxRecDepth 4000 in
theorem mo_nextOrder_L4_ok {Z : Nat × (Nat → Int)} {d : Nat} (hd : 1 ≤ d)  {v1 : Int} {K1 : Int → MM → OR} {res : AR × MM} (k1 : ∀ (x2 : Int) (M : MM) (j3 j4 j5 : AV), K1 x2 M = some res → EX Z d 282 31 [vR 165, vI v1, vI x2, j3, j4, j5] [] M res) : ∀ (n : Nat) (v2 : Int) (M : MM) (j3 j4 j5 : AV), mo_nextOrder_L4 v1 K1 n v2 M = some res → EX Z d 282 4 [vR 165, vI v1, vI v2, j3, j4, j5] [] M res := by
  obtain ⟨e9, rfl⟩ : ∃ e9, d = e9 + 1 := ⟨d - 1, by omega⟩
  intro n
  induction n with
  | zero =>
    intro v2 M j3 j4 j5 hf
    unfold mo_nextOrder_L4 at hf
    cases hf
  | succ n ih =>
    intro v2 M j3 j4 j5 hf
    unfold mo_nextOrder_L4 at hf
    refine ex_pu (ls' := [vR 165, vI v1, vI v2, j3, j4, j5]) (st' := [vI v2]) (dg dc282 4 rfl) rfl rfl ?_
    refine ex_if (t := 31) (dg dc282 5 rfl) rfl hf (fun _ hf => ?_) (fun _ hf => ?_)
    · exact k1 v2 M _ _ _ hf
    · refine ex_pu (ls' := [vR 165, vI v1, vI v2, j3, j4, j5]) (st' := [vR 165]) (dg dc282 6 rfl) rfl rfl ?_
      refine ex_getO (dg dc282 7 rfl) rfl (LOC.st (Nat.le_of_ble_eq_true rfl) rfl) rfl ?_
      show EX Z _ 282 _ [vR 165, vI v1, vI v2, j3, j4, j5] [vR 178] _ _
      refine ex_pu (ls' := [vR 165, vI v1, vI v2, j3, j4, j5]) (st' := [vI v2, vR 178]) (dg dc282 8 rfl) rfl rfl ?_
      refine ex_iald (dg dc282 9 rfl) (LOC.st (Nat.le_of_ble_eq_true rfl) rfl) rfl hf (fun _ hf => ?_)
      refine ex_pu (ls' := [vR 165, vI v1, vI v2, j3, j4, j5]) (st' := [vR 165, vI (M 178 (v2).toNat)]) (dg dc282 10 rfl) rfl rfl ?_
      refine ex_getO (dg dc282 11 rfl) rfl (LOC.st (Nat.le_of_ble_eq_true rfl) rfl) rfl ?_
      show EX Z _ 282 _ [vR 165, vI v1, vI v2, j3, j4, j5] [vR 178, vI (M 178 (v2).toNat)] _ _
      refine ex_pu (ls' := [vR 165, vI v1, vI v2, j3, j4, j5]) (st' := [vI v2, vR 178, vI (M 178 (v2).toNat)]) (dg dc282 12 rfl) rfl rfl ?_
      refine ex_pu (ls' := [vR 165, vI v1, vI v2, j3, j4, j5]) (st' := [vI 1, vI v2, vR 178, vI (M 178 (v2).toNat)]) (dg dc282 13 rfl) rfl rfl ?_
      refine ex_pu (ls' := [vR 165, vI v1, vI v2, j3, j4, j5]) (st' := [vI (v2 + 1), vR 178, vI (M 178 (v2).toNat)]) (dg dc282 14 rfl) rfl rfl ?_
      refine ex_iald (dg dc282 15 rfl) (LOC.st (Nat.le_of_ble_eq_true rfl) rfl) rfl hf (fun _ hf => ?_)
      refine ex_icmp (t := 31) (dg dc282 16 rfl) rfl hf (fun _ hf => ?_) (fun _ hf => ?_)
      · exact k1 v2 M _ _ _ hf
      · refine ex_pu (ls' := [vR 165, vI v1, vI (v2 + (-1)), j3, j4, j5]) (st' := []) (dg dc282 17 rfl) rfl rfl ?_
        refine ex_goto (t := 4) (dg dc282 18 rfl) rfl rfl ?_
        exact ih (v2 + (-1)) M _ _ _ hf
def mo_nextOrder_L41  (v1 v2 : Int) (K1 : Int → MM → OR) : Nat → Int → MM → OR
  | 0, _, _ => none
  | n + 1, v3, M => (bif inB v3 7 then (bif inB v2 7 then (bif cmpB .ge (M 178 (v3).toNat) (M 178 (v2).toNat) then (K1 v3 M) else (mo_nextOrder_L41 v1 v2 K1 n (v3 + (-1)) M)) else none) else none)
set_option maxRecDepth 4000 in
theorem mo_nextOrder_L41_ok {Z : Nat × (Nat → Int)} {d : Nat} (hd : 1 ≤ d)  {v1 v2 : Int} {K1 : Int → MM → OR} {res : AR × MM} (k1 : ∀ (x3 : Int) (M : MM) (j4 j5 : AV), K1 x3 M = some res → EX Z d 282 62 [vR 165, vI v1, vI v2, vI x3, j4, j5] [] M res) : ∀ (n : Nat) (v3 : Int) (M : MM) (j4 j5 : AV), mo_nextOrder_L41 v1 v2 K1 n v3 M = some res → EX Z d 282 41 [vR 165, vI v1, vI v2, vI v3, j4, j5] [] M res := by
  obtain ⟨e9, rfl⟩ : ∃ e9, d = e9 + 1 := ⟨d - 1, by omega⟩
  intro n
  induction n with
  | zero =>
    intro v3 M j4 j5 hf
    unfold mo_nextOrder_L41 at hf
    cases hf
  | succ n ih =>
    intro v3 M j4 j5 hf
    unfold mo_nextOrder_L41 at hf
    refine ex_pu (ls' := [vR 165, vI v1, vI v2, vI v3, j4, j5]) (st' := [vR 165]) (dg dc282 27 rfl) rfl rfl ?_
    refine ex_getO (dg dc282 28 rfl) rfl (LOC.st (Nat.le_of_ble_eq_true rfl) rfl) rfl ?_
    show EX Z _ 282 _ [vR 165, vI v1, vI v2, vI v3, j4, j5] [vR 178] _ _
    refine ex_pu (ls' := [vR 165, vI v1, vI v2, vI v3, j4, j5]) (st' := [vI v3, vR 178]) (dg dc282 29 rfl) rfl rfl ?_
    refine ex_iald (dg dc282 30 rfl) (LOC.st (Nat.le_of_ble_eq_true rfl) rfl) rfl hf (fun _ hf => ?_)
    refine ex_pu (ls' := [vR 165, vI v1, vI v2, vI v3, j4, j5]) (st' := [vR 165, vI (M 178 (v3).toNat)]) (dg dc282 31 rfl) rfl rfl ?_
    refine ex_getO (dg dc282 32 rfl) rfl (LOC.st (Nat.le_of_ble_eq_true rfl) rfl) rfl ?_
    show EX Z _ 282 _ [vR 165, vI v1, vI v2, vI v3, j4, j5] [vR 178, vI (M 178 (v3).toNat)] _ _
    refine ex_pu (ls' := [vR 165, vI v1, vI v2, vI v3, j4, j5]) (st' := [vI v2, vR 178, vI (M 178 (v3).toNat)]) (dg dc282 33 rfl) rfl rfl ?_
    refine ex_iald (dg dc282 34 rfl) (LOC.st (Nat.le_of_ble_eq_true rfl) rfl) rfl hf (fun _ hf => ?_)
    refine ex_icmp (t := 62) (dg dc282 35 rfl) rfl hf (fun _ hf => ?_) (fun _ hf => ?_)
    · exact k1 v3 M _ _ hf
    · refine ex_pu (ls' := [vR 165, vI v1, vI v2, vI (v3 + (-1)), j4, j5]) (st' := []) (dg dc282 36 rfl) rfl rfl ?_
      refine ex_goto (t := 41) (dg dc282 37 rfl) rfl rfl ?_
      exact ih (v3 + (-1)) M _ _ hf
def mo_nextOrder_L78  (K1 : MM → OR) : Nat → Int → Int → MM → OR
  | 0, _, _, _ => none
  | n + 1, v4, v5, M => (bif cmpB .ge v4 v5 then (K1  M) else (bV (mo_swaps v4 v5 M) fun M_14 => (mo_nextOrder_L78  K1 n (v4 + 1) (v5 + (-1)) M_14)))
set_option maxRecDepth 4000 in
theorem mo_nextOrder_L78_ok {Z : Nat × (Nat → Int)} {d : Nat} (hd : 1 ≤ d)  {K1 : MM → OR} {res : AR × MM} (k1 : ∀ (M : MM) (j0 j1 j2 j3 j4 j5 : AV), K1  M = some res → EX Z d 282 102 [j0, j1, j2, j3, j4, j5] [] M res) : ∀ (n : Nat) (v4 v5 : Int) (M : MM) (j1 j2 j3 : AV), mo_nextOrder_L78  K1 n v4 v5 M = some res → EX Z d 282 78 [vR 165, j1, j2, j3, vI v4, vI v5] [] M res := by
  obtain ⟨e9, rfl⟩ : ∃ e9, d = e9 + 1 := ⟨d - 1, by omega⟩
  intro n
  induction n with
  | zero =>
    intro v4 v5 M j1 j2 j3 hf
    unfold mo_nextOrder_L78 at hf
    cases hf
  | succ n ih =>
    intro v4 v5 M j1 j2 j3 hf
    unfold mo_nextOrder_L78 at hf
    refine ex_pu (ls' := [vR 165, j1, j2, j3, vI v4, vI v5]) (st' := [vI v4]) (dg dc282 50 rfl) rfl rfl ?_
    refine ex_pu (ls' := [vR 165, j1, j2, j3, vI v4, vI v5]) (st' := [vI v5, vI v4]) (dg dc282 51 rfl) rfl rfl ?_
    refine ex_icmp (t := 102) (dg dc282 52 rfl) rfl hf (fun _ hf => ?_) (fun _ hf => ?_)
    · exact k1  M _ _ _ _ _ _ hf
    · refine ex_pu (ls' := [vR 165, j1, j2, j3, vI v4, vI v5]) (st' := [vR 165]) (dg dc282 53 rfl) rfl rfl ?_
      refine ex_pu (ls' := [vR 165, j1, j2, j3, vI v4, vI v5]) (st' := [vI v4, vR 165]) (dg dc282 54 rfl) rfl rfl ?_
      refine ex_pu (ls' := [vR 165, j1, j2, j3, vI v4, vI v5]) (st' := [vI v5, vI v4, vR 165]) (dg dc282 55 rfl) rfl rfl ?_
      refine ex_cV (vs := [vR 165, vI v4, vI v5]) (st' := []) (F := (mo_swaps v4 v5 M)) (Or.inr (Or.inl ⟨rfl, (dg dc282 56 rfl)⟩)) rfl rfl (rk1 (LOC.st (Nat.le_of_ble_eq_true rfl) rfl) rfl) rfl (fun _ r9 => mo_swaps_ok (Z := Z) (d := e9) (by omega)  r9) hf (fun M_14 he_13 hf => ?_)
      refine ex_incD (dg dc282 57 rfl) rfl rfl (fun w_16 => ?_)
      show EX Z _ 282 _ [vR 165, j1, j2, w_16, vI (v4 + 1), vI v5] [] _ _
      refine ex_pu (ls' := [vR 165, j1, j2, w_16, vI (v4 + 1), vI (v5 + (-1))]) (st' := []) (dg dc282 58 rfl) rfl rfl ?_
      refine ex_goto (t := 78) (dg dc282 59 rfl) rfl rfl ?_
      exact ih (v4 + 1) (v5 + (-1)) M_14 _ _ _ hf
def mo_nextOrder_J31   (v1 v2 : Int) (M : MM) : OR :=
  (bif cmpB .ge v2 0 then (mo_nextOrder_L41 v1 v2 (fun v3_6 M_7 => (bV (mo_swaps v2 v3_6 M_7) fun M_11 => (mo_nextOrder_L78  (fun M_17 => some (rI 1, M_17)) FU (v2 + 1) (v1 - 1) M_11))) FU (v1 - 1) M) else some (rI 0, M))
set_option maxRecDepth 4000 in
theorem mo_nextOrder_J31_ok {Z : Nat × (Nat → Int)} {d : Nat} (hd : 1 ≤ d)   {res : AR × MM}  : ∀ (v1 v2 : Int) (M : MM) (j3 j4 j5 : AV), mo_nextOrder_J31   v1 v2 M = some res → EX Z d 282 31 [vR 165, vI v1, vI v2, j3, j4, j5] [] M res := by
  obtain ⟨e9, rfl⟩ : ∃ e9, d = e9 + 1 := ⟨d - 1, by omega⟩
  intro v1 v2 M j3 j4 j5 hf
  unfold mo_nextOrder_J31 at hf
  refine ex_pu (ls' := [vR 165, vI v1, vI v2, j3, j4, j5]) (st' := [vI v2]) (dg dc282 19 rfl) rfl rfl ?_
  refine ex_if (t := 37) (dg dc282 20 rfl) rfl hf (fun _ hf => ?_) (fun _ hf => ?_)
  · refine ex_pu (ls' := [vR 165, vI v1, vI v2, j3, j4, j5]) (st' := [vI v1]) (dg dc282 23 rfl) rfl rfl ?_
    refine ex_pu (ls' := [vR 165, vI v1, vI v2, j3, j4, j5]) (st' := [vI 1, vI v1]) (dg dc282 24 rfl) rfl rfl ?_
    refine ex_pu (ls' := [vR 165, vI v1, vI v2, j3, j4, j5]) (st' := [vI (v1 - 1)]) (dg dc282 25 rfl) rfl rfl ?_
    refine ex_pu (ls' := [vR 165, vI v1, vI v2, vI (v1 - 1), j4, j5]) (st' := []) (dg dc282 26 rfl) rfl rfl ?_
    refine mo_nextOrder_L41_ok hd  ?_ FU (v1 - 1) M _ _ hf
    · intro v3_6 M_7 j4_8 j5_9 hf
      refine ex_pu (ls' := [vR 165, vI v1, vI v2, vI v3_6, j4_8, j5_9]) (st' := [vR 165]) (dg dc282 38 rfl) rfl rfl ?_
      refine ex_pu (ls' := [vR 165, vI v1, vI v2, vI v3_6, j4_8, j5_9]) (st' := [vI v2, vR 165]) (dg dc282 39 rfl) rfl rfl ?_
      refine ex_pu (ls' := [vR 165, vI v1, vI v2, vI v3_6, j4_8, j5_9]) (st' := [vI v3_6, vI v2, vR 165]) (dg dc282 40 rfl) rfl rfl ?_
      refine ex_cV (vs := [vR 165, vI v2, vI v3_6]) (st' := []) (F := (mo_swaps v2 v3_6 M_7)) (Or.inr (Or.inl ⟨rfl, (dg dc282 41 rfl)⟩)) rfl rfl (rk1 (LOC.st (Nat.le_of_ble_eq_true rfl) rfl) rfl) rfl (fun _ r9 => mo_swaps_ok (Z := Z) (d := e9) (by omega)  r9) hf (fun M_11 he_10 hf => ?_)
      refine ex_pu (ls' := [vR 165, vI v1, vI v2, vI v3_6, j4_8, j5_9]) (st' := [vI v2]) (dg dc282 42 rfl) rfl rfl ?_
      refine ex_pu (ls' := [vR 165, vI v1, vI v2, vI v3_6, j4_8, j5_9]) (st' := [vI 1, vI v2]) (dg dc282 43 rfl) rfl rfl ?_
      refine ex_pu (ls' := [vR 165, vI v1, vI v2, vI v3_6, j4_8, j5_9]) (st' := [vI (v2 + 1)]) (dg dc282 44 rfl) rfl rfl ?_
      refine ex_pu (ls' := [vR 165, vI v1, vI v2, vI v3_6, vI (v2 + 1), j5_9]) (st' := []) (dg dc282 45 rfl) rfl rfl ?_
      refine ex_pu (ls' := [vR 165, vI v1, vI v2, vI v3_6, vI (v2 + 1), j5_9]) (st' := [vI v1]) (dg dc282 46 rfl) rfl rfl ?_
      refine ex_pu (ls' := [vR 165, vI v1, vI v2, vI v3_6, vI (v2 + 1), j5_9]) (st' := [vI 1, vI v1]) (dg dc282 47 rfl) rfl rfl ?_
      refine ex_pu (ls' := [vR 165, vI v1, vI v2, vI v3_6, vI (v2 + 1), j5_9]) (st' := [vI (v1 - 1)]) (dg dc282 48 rfl) rfl rfl ?_
      refine ex_pu (ls' := [vR 165, vI v1, vI v2, vI v3_6, vI (v2 + 1), vI (v1 - 1)]) (st' := []) (dg dc282 49 rfl) rfl rfl ?_
      refine mo_nextOrder_L78_ok hd  ?_ FU (v2 + 1) (v1 - 1) M_11 _ _ _ hf
      · intro M_17 j0_18 j1_19 j2_20 j3_21 j4_22 j5_23 hf
        refine ex_pu (ls' := [j0_18, j1_19, j2_20, j3_21, j4_22, j5_23]) (st' := [vI 1]) (dg dc282 60 rfl) rfl rfl ?_
        exact ex_ire (dg dc282 61 rfl) rfl hf
  · refine ex_pu (ls' := [vR 165, vI v1, vI v2, j3, j4, j5]) (st' := [vI 0]) (dg dc282 21 rfl) rfl rfl ?_
    exact ex_ire (dg dc282 22 rfl) rfl hf
def mo_nextOrder (v1 : Int) (M : MM) : OR :=
  (mo_nextOrder_L4 v1 (fun v2_1 M_2 => (mo_nextOrder_J31   v1 v2_1 M_2)) FU (v1 - 2) M)
set_option maxRecDepth 4000 in
theorem mo_nextOrder_ok {Z : Nat × (Nat → Int)} {d : Nat} (hd : 1 ≤ d) {M : MM}  {v1 : Int} {res : AR × MM} (hf : mo_nextOrder v1 M = some res) : EX Z d 282 0 (ent 282 [vR 165, vI v1]) [] M res := by
  obtain ⟨e9, rfl⟩ : ∃ e9, d = e9 + 1 := ⟨d - 1, by omega⟩
  unfold mo_nextOrder at hf
  show EX Z _ 282 0 [vR 165, vI v1, vU, vU, vU, vU] [] M res
  refine ex_pu (ls' := [vR 165, vI v1, vU, vU, vU, vU]) (st' := [vI v1]) (dg dc282 0 rfl) rfl rfl ?_
  refine ex_pu (ls' := [vR 165, vI v1, vU, vU, vU, vU]) (st' := [vI 2, vI v1]) (dg dc282 1 rfl) rfl rfl ?_
  refine ex_pu (ls' := [vR 165, vI v1, vU, vU, vU, vU]) (st' := [vI (v1 - 2)]) (dg dc282 2 rfl) rfl rfl ?_
  refine ex_pu (ls' := [vR 165, vI v1, vI (v1 - 2), vU, vU, vU]) (st' := []) (dg dc282 3 rfl) rfl rfl ?_
  refine mo_nextOrder_L4_ok hd  ?_ FU (v1 - 2) M _ _ _ hf
  · intro v2_1 M_2 j3_3 j4_4 j5_5 hf
    exact mo_nextOrder_J31_ok hd   v1 v2_1 M_2 _ _ _ hf
-- GlassHillModel.gate
def il283 : List (Nat × Instr × Nat) := [(0, .aload_n 0, 1), (1, .iconst 0, 1), (2, .putfield 3, 3), (5, .iconst 0, 1), (6, .istore_n 2, 1), (7, .iconst 0, 1), (8, .istore_n 3, 1), (9, .iload_n 3, 1), (10, .aload_n 0, 1), (11, .invokevirtual 90, 3), (14, .if_icmp .ge 31, 3), (17, .aload_n 0, 1), (18, .iload_n 3, 1), (19, .iconst 5, 1), (20, .invokevirtual 287, 3), (23, .ifCond .ge 6, 3), (26, .goto 13, 3), (29, .aload_n 0, 1), (30, .getfield 56, 3), (33, .iload_n 2, 1), (34, .iload_n 3, 1), (35, .iastore, 1), (36, .iinc 2 1, 3), (39, .iinc 3 1, 3), (42, .goto (-33), 3), (45, .iconst (-1), 1), (46, .istore_n 3, 1), (47, .aload_n 0, 1), (48, .iload_n 2, 1), (49, .invokevirtual 478, 3), (52, .istore 4, 2), (54, .iload_n 3, 1), (55, .ifCond .lt 12, 3), (58, .iload 4, 2), (60, .iload_n 3, 1), (61, .if_icmp .lt 6, 3), (64, .goto 35, 3), (67, .iload 4, 2), (69, .istore_n 3, 1), (70, .iconst 0, 1), (71, .istore 5, 2), (73, .iload 5, 2), (75, .iload_n 2, 1), (76, .if_icmp .ge 23, 3), (79, .aload_n 0, 1), (80, .getfield 59, 3), (83, .iload 5, 2), (85, .aload_n 0, 1), (86, .getfield 56, 3), (89, .iload 5, 2), (91, .iaload, 1), (92, .iastore, 1), (93, .iinc 5 1, 3), (96, .goto (-23), 3), (99, .aload_n 0, 1), (100, .iload_n 2, 1), (101, .invokevirtual 481, 3), (104, .ifCond .ne (-57), 3), (107, .iload_n 1, 1), (108, .iconst (-1), 1), (109, .if_icmp .ne 7, 3), (112, .iload_n 3, 1), (113, .goto 24, 3), (116, .iload_n 1, 1), (117, .iconst 0, 1), (118, .iload_n 2, 1), (119, .iconst 1, 1), (120, .isub, 1), (121, .invokestatic 80, 3), (124, .ifCond .eq 12, 3), (127, .aload_n 0, 1), (128, .getfield 59, 3), (131, .iload_n 1, 1), (132, .iaload, 1), (133, .goto 4, 3), (136, .iconst (-1), 1), (137, .ireturn, 1)]
theorem dc283 : dcs (mC 283) il283 := dc_of (by decide +kernel)
def mo_gate_L9  (v1 : Int) (K1 : Int → MM → OR) : Nat → Int → Int → MM → OR
  | 0, _, _, _ => none
  | n + 1, v2, v3, M => (bI (mo_brothers  M) fun z_5 M_4 => (bif cmpB .ge v3 z_5 then (K1 v2 M_4) else (bI (mo_ofBrother v3 5 M_4) fun z_8 M_7 => (bif cmpB .ge z_8 0 then (bif inB v2 7 then (sM (mU M_7 178 (v2).toNat v3) fun M_9 => (mo_gate_L9 v1 K1 n (v2 + 1) (v3 + 1) M_9)) else none) else (mo_gate_L9 v1 K1 n v2 (v3 + 1) M_7)))))
set_option maxRecDepth 4000 in
theorem mo_gate_L9_ok {Z : Nat × (Nat → Int)} {d : Nat} (hd : 3 ≤ d)  {v1 : Int} {K1 : Int → MM → OR} {res : AR × MM} (k1 : ∀ (x2 : Int) (M : MM) (j3 j4 j5 : AV), K1 x2 M = some res → EX Z d 283 45 [vR 165, vI v1, vI x2, j3, j4, j5] [] M res) : ∀ (n : Nat) (v2 v3 : Int) (M : MM) (j4 j5 : AV), mo_gate_L9 v1 K1 n v2 v3 M = some res → EX Z d 283 9 [vR 165, vI v1, vI v2, vI v3, j4, j5] [] M res := by
  obtain ⟨e9, rfl⟩ : ∃ e9, d = e9 + 1 := ⟨d - 1, by omega⟩
  intro n
  induction n with
  | zero =>
    intro v2 v3 M j4 j5 hf
    unfold mo_gate_L9 at hf
    cases hf
  | succ n ih =>
    intro v2 v3 M j4 j5 hf
    unfold mo_gate_L9 at hf
    refine ex_pu (ls' := [vR 165, vI v1, vI v2, vI v3, j4, j5]) (st' := [vI v3]) (dg dc283 7 rfl) rfl rfl ?_
    refine ex_pu (ls' := [vR 165, vI v1, vI v2, vI v3, j4, j5]) (st' := [vR 165, vI v3]) (dg dc283 8 rfl) rfl rfl ?_
    refine ex_cI (vs := [vR 165]) (st' := [vI v3]) (F := (mo_brothers  M)) (Or.inr (Or.inl ⟨rfl, (dg dc283 9 rfl)⟩)) rfl rfl (rk1 (LOC.st (Nat.le_of_ble_eq_true rfl) rfl) rfl) rfl (fun _ r9 => mo_brothers_ok (Z := Z) (d := e9) (by omega)  r9) hf (fun z_5 M_4 he_3 hf => ?_)
    refine ex_icmp (t := 45) (dg dc283 10 rfl) rfl hf (fun _ hf => ?_) (fun _ hf => ?_)
    · exact k1 v2 M_4 _ _ _ hf
    · refine ex_pu (ls' := [vR 165, vI v1, vI v2, vI v3, j4, j5]) (st' := [vR 165]) (dg dc283 11 rfl) rfl rfl ?_
      refine ex_pu (ls' := [vR 165, vI v1, vI v2, vI v3, j4, j5]) (st' := [vI v3, vR 165]) (dg dc283 12 rfl) rfl rfl ?_
      refine ex_pu (ls' := [vR 165, vI v1, vI v2, vI v3, j4, j5]) (st' := [vI 5, vI v3, vR 165]) (dg dc283 13 rfl) rfl rfl ?_
      refine ex_cI (vs := [vR 165, vI v3, vI 5]) (st' := []) (F := (mo_ofBrother v3 5 M_4)) (Or.inr (Or.inl ⟨rfl, (dg dc283 14 rfl)⟩)) rfl rfl (rk1 (LOC.st (Nat.le_of_ble_eq_true rfl) rfl) rfl) rfl (fun _ r9 => mo_ofBrother_ok (Z := Z) (d := e9) (by omega)  r9) hf (fun z_8 M_7 he_6 hf => ?_)
      refine ex_if (t := 29) (dg dc283 15 rfl) rfl hf (fun _ hf => ?_) (fun _ hf => ?_)
      · refine ex_pu (ls' := [vR 165, vI v1, vI v2, vI v3, j4, j5]) (st' := [vR 165]) (dg dc283 17 rfl) rfl rfl ?_
        refine ex_getO (dg dc283 18 rfl) rfl (LOC.st (Nat.le_of_ble_eq_true rfl) rfl) rfl ?_
        show EX Z _ 283 _ [vR 165, vI v1, vI v2, vI v3, j4, j5] [vR 178] _ _
        refine ex_pu (ls' := [vR 165, vI v1, vI v2, vI v3, j4, j5]) (st' := [vI v2, vR 178]) (dg dc283 19 rfl) rfl rfl ?_
        refine ex_pu (ls' := [vR 165, vI v1, vI v2, vI v3, j4, j5]) (st' := [vI v3, vI v2, vR 178]) (dg dc283 20 rfl) rfl rfl ?_
        refine ex_iast (dg dc283 21 rfl) (LOC.st (Nat.le_of_ble_eq_true rfl) rfl) rfl rfl hf (fun _ hf => ?_)
        refine ex_gen hf (fun M_9 hM_10 hf => ?_)
        refine ex_pu (ls' := [vR 165, vI v1, vI (v2 + 1), vI v3, j4, j5]) (st' := []) (dg dc283 22 rfl) rfl rfl ?_
        refine ex_pu (ls' := [vR 165, vI v1, vI (v2 + 1), vI (v3 + 1), j4, j5]) (st' := []) (dg dc283 23 rfl) rfl rfl ?_
        refine ex_goto (t := 9) (dg dc283 24 rfl) rfl rfl ?_
        exact ih (v2 + 1) (v3 + 1) M_9 _ _ hf
      · refine ex_goto (t := 39) (dg dc283 16 rfl) rfl rfl ?_
        refine ex_pu (ls' := [vR 165, vI v1, vI v2, vI (v3 + 1), j4, j5]) (st' := []) (dg dc283 23 rfl) rfl rfl ?_
        refine ex_goto (t := 9) (dg dc283 24 rfl) rfl rfl ?_
        exact ih v2 (v3 + 1) M_7 _ _ hf
def mo_gate_L73  (v1 v2 v3 : Int) (K1 : MM → OR) : Nat → Int → MM → OR
  | 0, _, _ => none
  | n + 1, v5, M => (bif cmpB .ge v5 v2 then (K1  M) else (bif inB v5 7 then (bif inB v5 7 then (sM (mU M 179 (v5).toNat (M 178 (v5).toNat)) fun M_19 => (mo_gate_L73 v1 v2 v3 K1 n (v5 + 1) M_19)) else none) else none))
set_option maxRecDepth 4000 in
theorem mo_gate_L73_ok {Z : Nat × (Nat → Int)} {d : Nat} (hd : 3 ≤ d)  {v1 v2 v3 : Int} {K1 : MM → OR} {res : AR × MM} (k1 : ∀ (M : MM) (j4 j5 : AV), K1  M = some res → EX Z d 283 99 [vR 165, vI v1, vI v2, vI v3, j4, j5] [] M res) : ∀ (n : Nat) (v5 : Int) (M : MM) (j4 : AV), mo_gate_L73 v1 v2 v3 K1 n v5 M = some res → EX Z d 283 73 [vR 165, vI v1, vI v2, vI v3, j4, vI v5] [] M res := by
  obtain ⟨e9, rfl⟩ : ∃ e9, d = e9 + 1 := ⟨d - 1, by omega⟩
  intro n
  induction n with
  | zero =>
    intro v5 M j4 hf
    unfold mo_gate_L73 at hf
    cases hf
  | succ n ih =>
    intro v5 M j4 hf
    unfold mo_gate_L73 at hf
    refine ex_pu (ls' := [vR 165, vI v1, vI v2, vI v3, j4, vI v5]) (st' := [vI v5]) (dg dc283 41 rfl) rfl rfl ?_
    refine ex_pu (ls' := [vR 165, vI v1, vI v2, vI v3, j4, vI v5]) (st' := [vI v2, vI v5]) (dg dc283 42 rfl) rfl rfl ?_
    refine ex_icmp (t := 99) (dg dc283 43 rfl) rfl hf (fun _ hf => ?_) (fun _ hf => ?_)
    · exact k1  M _ _ hf
    · refine ex_pu (ls' := [vR 165, vI v1, vI v2, vI v3, j4, vI v5]) (st' := [vR 165]) (dg dc283 44 rfl) rfl rfl ?_
      refine ex_getO (dg dc283 45 rfl) rfl (LOC.st (Nat.le_of_ble_eq_true rfl) rfl) rfl ?_
      show EX Z _ 283 _ [vR 165, vI v1, vI v2, vI v3, j4, vI v5] [vR 179] _ _
      refine ex_pu (ls' := [vR 165, vI v1, vI v2, vI v3, j4, vI v5]) (st' := [vI v5, vR 179]) (dg dc283 46 rfl) rfl rfl ?_
      refine ex_pu (ls' := [vR 165, vI v1, vI v2, vI v3, j4, vI v5]) (st' := [vR 165, vI v5, vR 179]) (dg dc283 47 rfl) rfl rfl ?_
      refine ex_getO (dg dc283 48 rfl) rfl (LOC.st (Nat.le_of_ble_eq_true rfl) rfl) rfl ?_
      show EX Z _ 283 _ [vR 165, vI v1, vI v2, vI v3, j4, vI v5] [vR 178, vI v5, vR 179] _ _
      refine ex_pu (ls' := [vR 165, vI v1, vI v2, vI v3, j4, vI v5]) (st' := [vI v5, vR 178, vI v5, vR 179]) (dg dc283 49 rfl) rfl rfl ?_
      refine ex_iald (dg dc283 50 rfl) (LOC.st (Nat.le_of_ble_eq_true rfl) rfl) rfl hf (fun _ hf => ?_)
      refine ex_iast (dg dc283 51 rfl) (LOC.st (Nat.le_of_ble_eq_true rfl) rfl) rfl rfl hf (fun _ hf => ?_)
      refine ex_gen hf (fun M_19 hM_20 hf => ?_)
      refine ex_incD (dg dc283 52 rfl) rfl rfl (fun w_21 => ?_)
      show EX Z _ 283 _ [vR 165, vI v1, vI v2, vI v3, w_21, vI (v5 + 1)] [] _ _
      refine ex_goto (t := 73) (dg dc283 53 rfl) rfl rfl ?_
      exact ih (v5 + 1) M_19 _ hf
def mo_gate_J67  (v1 v2 : Int) (Kb : Int → MM → OR) (K1 : Int → MM → OR) (v4 : Int) (M : MM) : OR :=
  (mo_gate_L73 v1 v2 v4 (fun M_22 => (bI (mo_nextOrder v2 M_22) fun z_27 M_26 => (bif cmpB .ne z_27 0 then (Kb v4 M_26) else (K1 v4 M_26)))) FU 0 M)
set_option maxRecDepth 4000 in
theorem mo_gate_J67_ok {Z : Nat × (Nat → Int)} {d : Nat} (hd : 3 ≤ d)  {v1 v2 : Int} {Kb : Int → MM → OR} {K1 : Int → MM → OR} {res : AR × MM} (kb : ∀ (x3 : Int) (M : MM) (j4 j5 : AV), Kb x3 M = some res → EX Z d 283 47 [vR 165, vI v1, vI v2, vI x3, j4, j5] [] M res) (k1 : ∀ (x3 : Int) (M : MM) (j4 j5 : AV), K1 x3 M = some res → EX Z d 283 107 [vR 165, vI v1, vI v2, vI x3, j4, j5] [] M res) : ∀ (v4 : Int) (M : MM) (j3 j5 : AV), mo_gate_J67 v1 v2 Kb K1 v4 M = some res → EX Z d 283 67 [vR 165, vI v1, vI v2, j3, vI v4, j5] [] M res := by
  obtain ⟨e9, rfl⟩ : ∃ e9, d = e9 + 1 := ⟨d - 1, by omega⟩
  intro v4 M j3 j5 hf
  unfold mo_gate_J67 at hf
  refine ex_pu (ls' := [vR 165, vI v1, vI v2, j3, vI v4, j5]) (st' := [vI v4]) (dg dc283 37 rfl) rfl rfl ?_
  refine ex_pu (ls' := [vR 165, vI v1, vI v2, vI v4, vI v4, j5]) (st' := []) (dg dc283 38 rfl) rfl rfl ?_
  refine ex_pu (ls' := [vR 165, vI v1, vI v2, vI v4, vI v4, j5]) (st' := [vI 0]) (dg dc283 39 rfl) rfl rfl ?_
  refine ex_pu (ls' := [vR 165, vI v1, vI v2, vI v4, vI v4, vI 0]) (st' := []) (dg dc283 40 rfl) rfl rfl ?_
  refine mo_gate_L73_ok hd  ?_ FU 0 M _ hf
  · intro M_22 j4_23 j5_24 hf
    refine ex_pu (ls' := [vR 165, vI v1, vI v2, vI v4, j4_23, j5_24]) (st' := [vR 165]) (dg dc283 54 rfl) rfl rfl ?_
    refine ex_pu (ls' := [vR 165, vI v1, vI v2, vI v4, j4_23, j5_24]) (st' := [vI v2, vR 165]) (dg dc283 55 rfl) rfl rfl ?_
    refine ex_cI (vs := [vR 165, vI v2]) (st' := []) (F := (mo_nextOrder v2 M_22)) (Or.inr (Or.inl ⟨rfl, (dg dc283 56 rfl)⟩)) rfl rfl (rk1 (LOC.st (Nat.le_of_ble_eq_true rfl) rfl) rfl) rfl (fun _ r9 => mo_nextOrder_ok (Z := Z) (d := e9) (by omega)  r9) hf (fun z_27 M_26 he_25 hf => ?_)
    refine ex_if (t := 47) (dg dc283 57 rfl) rfl hf (fun _ hf => ?_) (fun _ hf => ?_)
    · exact kb v4 M_26 _ _ hf
    · exact k1 v4 M_26 _ _ hf
def mo_gate_L47  (v1 v2 : Int) (K1 : Int → MM → OR) : Nat → Int → MM → OR
  | 0, _, _ => none
  | n + 1, v3, M => (bI (mo_lateness v2 M) fun z_18 M_17 => (bif cmpB .lt v3 0 then (mo_gate_J67 v1 v2 (mo_gate_L47 v1 v2 K1 n) K1 z_18 M_17) else (bif cmpB .lt z_18 v3 then (mo_gate_J67 v1 v2 (mo_gate_L47 v1 v2 K1 n) K1 z_18 M_17) else (bI (mo_nextOrder v2 M_17) fun z_30 M_29 => (bif cmpB .ne z_30 0 then (mo_gate_L47 v1 v2 K1 n v3 M_29) else (K1 v3 M_29))))))
set_option maxRecDepth 4000 in
theorem mo_gate_L47_ok {Z : Nat × (Nat → Int)} {d : Nat} (hd : 3 ≤ d)  {v1 v2 : Int} {K1 : Int → MM → OR} {res : AR × MM} (k1 : ∀ (x3 : Int) (M : MM) (j4 j5 : AV), K1 x3 M = some res → EX Z d 283 107 [vR 165, vI v1, vI v2, vI x3, j4, j5] [] M res) : ∀ (n : Nat) (v3 : Int) (M : MM) (j4 j5 : AV), mo_gate_L47 v1 v2 K1 n v3 M = some res → EX Z d 283 47 [vR 165, vI v1, vI v2, vI v3, j4, j5] [] M res := by
  obtain ⟨e9, rfl⟩ : ∃ e9, d = e9 + 1 := ⟨d - 1, by omega⟩
  intro n
  induction n with
  | zero =>
    intro v3 M j4 j5 hf
    unfold mo_gate_L47 at hf
    cases hf
  | succ n ih =>
    intro v3 M j4 j5 hf
    unfold mo_gate_L47 at hf
    refine ex_pu (ls' := [vR 165, vI v1, vI v2, vI v3, j4, j5]) (st' := [vR 165]) (dg dc283 27 rfl) rfl rfl ?_
    refine ex_pu (ls' := [vR 165, vI v1, vI v2, vI v3, j4, j5]) (st' := [vI v2, vR 165]) (dg dc283 28 rfl) rfl rfl ?_
    refine ex_cI (vs := [vR 165, vI v2]) (st' := []) (F := (mo_lateness v2 M)) (Or.inr (Or.inl ⟨rfl, (dg dc283 29 rfl)⟩)) rfl rfl (rk1 (LOC.st (Nat.le_of_ble_eq_true rfl) rfl) rfl) rfl (fun _ r9 => mo_lateness_ok (Z := Z) (d := e9) (by omega)  r9) hf (fun z_18 M_17 he_16 hf => ?_)
    refine ex_pu (ls' := [vR 165, vI v1, vI v2, vI v3, vI z_18, j5]) (st' := []) (dg dc283 30 rfl) rfl rfl ?_
    refine ex_pu (ls' := [vR 165, vI v1, vI v2, vI v3, vI z_18, j5]) (st' := [vI v3]) (dg dc283 31 rfl) rfl rfl ?_
    refine ex_if (t := 67) (dg dc283 32 rfl) rfl hf (fun _ hf => ?_) (fun _ hf => ?_)
    · exact mo_gate_J67_ok hd  ih k1 z_18 M_17 _ _ hf
    · refine ex_pu (ls' := [vR 165, vI v1, vI v2, vI v3, vI z_18, j5]) (st' := [vI z_18]) (dg dc283 33 rfl) rfl rfl ?_
      refine ex_pu (ls' := [vR 165, vI v1, vI v2, vI v3, vI z_18, j5]) (st' := [vI v3, vI z_18]) (dg dc283 34 rfl) rfl rfl ?_
      refine ex_icmp (t := 67) (dg dc283 35 rfl) rfl hf (fun _ hf => ?_) (fun _ hf => ?_)
      · exact mo_gate_J67_ok hd  ih k1 z_18 M_17 _ _ hf
      · refine ex_goto (t := 99) (dg dc283 36 rfl) rfl rfl ?_
        refine ex_pu (ls' := [vR 165, vI v1, vI v2, vI v3, vI z_18, j5]) (st' := [vR 165]) (dg dc283 54 rfl) rfl rfl ?_
        refine ex_pu (ls' := [vR 165, vI v1, vI v2, vI v3, vI z_18, j5]) (st' := [vI v2, vR 165]) (dg dc283 55 rfl) rfl rfl ?_
        refine ex_cI (vs := [vR 165, vI v2]) (st' := []) (F := (mo_nextOrder v2 M_17)) (Or.inr (Or.inl ⟨rfl, (dg dc283 56 rfl)⟩)) rfl rfl (rk1 (LOC.st (Nat.le_of_ble_eq_true rfl) rfl) rfl) rfl (fun _ r9 => mo_nextOrder_ok (Z := Z) (d := e9) (by omega)  r9) hf (fun z_30 M_29 he_28 hf => ?_)
        refine ex_if (t := 47) (dg dc283 57 rfl) rfl hf (fun _ hf => ?_) (fun _ hf => ?_)
        · exact ih v3 M_29 _ _ hf
        · exact k1 v3 M_29 _ _ hf
def mo_gate (v1 : Int) (M : MM) : OR :=
  (sM (mU M 165 0 0) fun M_1 => (mo_gate_L9 v1 (fun v2_11 M_12 => (mo_gate_L47 v1 v2_11 (fun v3_31 M_32 => (bif cmpB .ne v1 (-1) then (bI (mo_in v1 0 (v2_11 - 1) M_32) fun z_37 M_36 => (bif cmpB .eq z_37 0 then some (rI (-1), M_36) else (bif inB v1 7 then some (rI (M_36 179 (v1).toNat), M_36) else none))) else some (rI v3_31, M_32))) FU (-1) M_12)) FU 0 0 M_1))
set_option maxRecDepth 4000 in
theorem mo_gate_ok {Z : Nat × (Nat → Int)} {d : Nat} (hd : 3 ≤ d) {M : MM}  {v1 : Int} {res : AR × MM} (hf : mo_gate v1 M = some res) : EX Z d 283 0 (ent 283 [vR 165, vI v1]) [] M res := by
  obtain ⟨e9, rfl⟩ : ∃ e9, d = e9 + 1 := ⟨d - 1, by omega⟩
  unfold mo_gate at hf
  show EX Z _ 283 0 [vR 165, vI v1, vU, vU, vU, vU] [] M res
  refine ex_pu (ls' := [vR 165, vI v1, vU, vU, vU, vU]) (st' := [vR 165]) (dg dc283 0 rfl) rfl rfl ?_
  refine ex_pu (ls' := [vR 165, vI v1, vU, vU, vU, vU]) (st' := [vI 0, vR 165]) (dg dc283 1 rfl) rfl rfl ?_
  refine ex_putI (dg dc283 2 rfl) rfl (LOC.st (Nat.le_of_ble_eq_true rfl) rfl) rfl rfl rfl ?_
  refine ex_gen hf (fun M_1 hM_2 hf => ?_)
  refine ex_pu (ls' := [vR 165, vI v1, vU, vU, vU, vU]) (st' := [vI 0]) (dg dc283 3 rfl) rfl rfl ?_
  refine ex_pu (ls' := [vR 165, vI v1, vI 0, vU, vU, vU]) (st' := []) (dg dc283 4 rfl) rfl rfl ?_
  refine ex_pu (ls' := [vR 165, vI v1, vI 0, vU, vU, vU]) (st' := [vI 0]) (dg dc283 5 rfl) rfl rfl ?_
  refine ex_pu (ls' := [vR 165, vI v1, vI 0, vI 0, vU, vU]) (st' := []) (dg dc283 6 rfl) rfl rfl ?_
  refine mo_gate_L9_ok hd  ?_ FU 0 0 M_1 _ _ hf
  · intro v2_11 M_12 j3_13 j4_14 j5_15 hf
    refine ex_pu (ls' := [vR 165, vI v1, vI v2_11, j3_13, j4_14, j5_15]) (st' := [vI (-1)]) (dg dc283 25 rfl) rfl rfl ?_
    refine ex_pu (ls' := [vR 165, vI v1, vI v2_11, vI (-1), j4_14, j5_15]) (st' := []) (dg dc283 26 rfl) rfl rfl ?_
    refine mo_gate_L47_ok hd  ?_ FU (-1) M_12 _ _ hf
    · intro v3_31 M_32 j4_33 j5_34 hf
      refine ex_pu (ls' := [vR 165, vI v1, vI v2_11, vI v3_31, j4_33, j5_34]) (st' := [vI v1]) (dg dc283 58 rfl) rfl rfl ?_
      refine ex_pu (ls' := [vR 165, vI v1, vI v2_11, vI v3_31, j4_33, j5_34]) (st' := [vI (-1), vI v1]) (dg dc283 59 rfl) rfl rfl ?_
      refine ex_icmp (t := 116) (dg dc283 60 rfl) rfl hf (fun _ hf => ?_) (fun _ hf => ?_)
      · refine ex_pu (ls' := [vR 165, vI v1, vI v2_11, vI v3_31, j4_33, j5_34]) (st' := [vI v1]) (dg dc283 63 rfl) rfl rfl ?_
        refine ex_pu (ls' := [vR 165, vI v1, vI v2_11, vI v3_31, j4_33, j5_34]) (st' := [vI 0, vI v1]) (dg dc283 64 rfl) rfl rfl ?_
        refine ex_pu (ls' := [vR 165, vI v1, vI v2_11, vI v3_31, j4_33, j5_34]) (st' := [vI v2_11, vI 0, vI v1]) (dg dc283 65 rfl) rfl rfl ?_
        refine ex_pu (ls' := [vR 165, vI v1, vI v2_11, vI v3_31, j4_33, j5_34]) (st' := [vI 1, vI v2_11, vI 0, vI v1]) (dg dc283 66 rfl) rfl rfl ?_
        refine ex_pu (ls' := [vR 165, vI v1, vI v2_11, vI v3_31, j4_33, j5_34]) (st' := [vI (v2_11 - 1), vI 0, vI v1]) (dg dc283 67 rfl) rfl rfl ?_
        refine ex_cI (vs := [vI v1, vI 0, vI (v2_11 - 1)]) (st' := []) (F := (mo_in v1 0 (v2_11 - 1) M_32)) (Or.inl ⟨rfl, (dg dc283 68 rfl)⟩) rfl rfl (Or.inl rfl) rfl (fun _ r9 => mo_in_ok (Z := Z) (d := e9) (by omega)  r9) hf (fun z_37 M_36 he_35 hf => ?_)
        refine ex_if (t := 136) (dg dc283 69 rfl) rfl hf (fun _ hf => ?_) (fun _ hf => ?_)
        · refine ex_pu (ls' := [vR 165, vI v1, vI v2_11, vI v3_31, j4_33, j5_34]) (st' := [vI (-1)]) (dg dc283 75 rfl) rfl rfl ?_
          exact ex_ire (dg dc283 76 rfl) rfl hf
        · refine ex_pu (ls' := [vR 165, vI v1, vI v2_11, vI v3_31, j4_33, j5_34]) (st' := [vR 165]) (dg dc283 70 rfl) rfl rfl ?_
          refine ex_getO (dg dc283 71 rfl) rfl (LOC.st (Nat.le_of_ble_eq_true rfl) rfl) rfl ?_
          show EX Z _ 283 _ [vR 165, vI v1, vI v2_11, vI v3_31, j4_33, j5_34] [vR 179] _ _
          refine ex_pu (ls' := [vR 165, vI v1, vI v2_11, vI v3_31, j4_33, j5_34]) (st' := [vI v1, vR 179]) (dg dc283 72 rfl) rfl rfl ?_
          refine ex_iald (dg dc283 73 rfl) (LOC.st (Nat.le_of_ble_eq_true rfl) rfl) rfl hf (fun _ hf => ?_)
          refine ex_goto (t := 137) (dg dc283 74 rfl) rfl rfl ?_
          exact ex_ire (dg dc283 76 rfl) rfl hf
      · refine ex_pu (ls' := [vR 165, vI v1, vI v2_11, vI v3_31, j4_33, j5_34]) (st' := [vI v3_31]) (dg dc283 61 rfl) rfl rfl ?_
        refine ex_goto (t := 137) (dg dc283 62 rfl) rfl rfl ?_
        exact ex_ire (dg dc283 76 rfl) rfl hf
-- GlassHillModel.readTwos
def il284 : List (Nat × Instr × Nat) := [(0, .aload_n 0, 1), (1, .invokevirtual 263, 3), (4, .aload_n 0, 1), (5, .getfield 99, 3), (8, .iconst 2, 1), (9, .irem, 1), (10, .ifCond .ne 7, 3), (13, .iconst 1, 1), (14, .goto 4, 3), (17, .iconst 0, 1), (18, .istore_n 3, 1), (19, .iconst 0, 1), (20, .istore 4, 2), (22, .iload 4, 2), (24, .iconst 1, 1), (25, .iadd, 1), (26, .aload_n 0, 1), (27, .getfield 99, 3), (30, .if_icmp .ge 51, 3), (33, .iload_n 3, 1), (34, .ifCond .eq 47, 3), (37, .aload_n 0, 1), (38, .getfield 26, 3), (41, .iload 4, 2), (43, .baload, 1), (44, .iconst 0, 1), (45, .iload_n 1, 1), (46, .invokestatic 80, 3), (49, .ifCond .eq 24, 3), (52, .aload_n 0, 1), (53, .getfield 26, 3), (56, .iload 4, 2), (58, .iconst 1, 1), (59, .iadd, 1), (60, .baload, 1), (61, .iconst 0, 1), (62, .iload_n 2, 1), (63, .invokestatic 80, 3), (66, .ifCond .eq 7, 3), (69, .iconst 1, 1), (70, .goto 4, 3), (73, .iconst 0, 1), (74, .istore_n 3, 1), (75, .iinc 4 2, 3), (78, .goto (-56), 3), (81, .iload_n 3, 1), (82, .ireturn, 1)]
theorem dc284 : dcs (mC 284) il284 := dc_of (by decide +kernel)
def mo_readTwos_L22  (v1 v2 : Int) (K1 : Int → MM → OR) : Nat → Int → Int → MM → OR
  | 0, _, _, _ => none
  | n + 1, v3, v4, M => (bif cmpB .ge (v4 + 1) (M 165 10) then (K1 v3 M) else (bif cmpB .eq v3 0 then (K1 v3 M) else (bif inB v4 400 then (bI (mo_in (M 170 (v4).toNat) 0 v1 M) fun z_6 M_5 => (bif cmpB .eq z_6 0 then (mo_readTwos_L22 v1 v2 K1 n 0 (v4 + 2) M_5) else (bif inB (v4 + 1) 400 then (bI (mo_in (M_5 170 ((v4 + 1)).toNat) 0 v2 M_5) fun z_9 M_8 => (bif cmpB .eq z_9 0 then (mo_readTwos_L22 v1 v2 K1 n 0 (v4 + 2) M_8) else (mo_readTwos_L22 v1 v2 K1 n 1 (v4 + 2) M_8))) else none))) else none)))
set_option maxRecDepth 4000 in
theorem mo_readTwos_L22_ok {Z : Nat × (Nat → Int)} {d : Nat} (hd : 1 ≤ d)  {v1 v2 : Int} {K1 : Int → MM → OR} {res : AR × MM} (k1 : ∀ (x3 : Int) (M : MM) (j0 j1 j2 j4 : AV), K1 x3 M = some res → EX Z d 284 81 [j0, j1, j2, vI x3, j4] [] M res) : ∀ (n : Nat) (v3 v4 : Int) (M : MM), mo_readTwos_L22 v1 v2 K1 n v3 v4 M = some res → EX Z d 284 22 [vR 165, vI v1, vI v2, vI v3, vI v4] [] M res := by
  obtain ⟨e9, rfl⟩ : ∃ e9, d = e9 + 1 := ⟨d - 1, by omega⟩
  intro n
  induction n with
  | zero =>
    intro v3 v4 M hf
    unfold mo_readTwos_L22 at hf
    cases hf
  | succ n ih =>
    intro v3 v4 M hf
    unfold mo_readTwos_L22 at hf
    refine ex_pu (ls' := [vR 165, vI v1, vI v2, vI v3, vI v4]) (st' := [vI v4]) (dg dc284 13 rfl) rfl rfl ?_
    refine ex_pu (ls' := [vR 165, vI v1, vI v2, vI v3, vI v4]) (st' := [vI 1, vI v4]) (dg dc284 14 rfl) rfl rfl ?_
    refine ex_pu (ls' := [vR 165, vI v1, vI v2, vI v3, vI v4]) (st' := [vI (v4 + 1)]) (dg dc284 15 rfl) rfl rfl ?_
    refine ex_pu (ls' := [vR 165, vI v1, vI v2, vI v3, vI v4]) (st' := [vR 165, vI (v4 + 1)]) (dg dc284 16 rfl) rfl rfl ?_
    refine ex_getI (dg dc284 17 rfl) rfl (LOC.st (Nat.le_of_ble_eq_true rfl) rfl) rfl ?_
    refine ex_icmp (t := 81) (dg dc284 18 rfl) rfl hf (fun _ hf => ?_) (fun _ hf => ?_)
    · exact k1 v3 M _ _ _ _ hf
    · refine ex_pu (ls' := [vR 165, vI v1, vI v2, vI v3, vI v4]) (st' := [vI v3]) (dg dc284 19 rfl) rfl rfl ?_
      refine ex_if (t := 81) (dg dc284 20 rfl) rfl hf (fun _ hf => ?_) (fun _ hf => ?_)
      · exact k1 v3 M _ _ _ _ hf
      · refine ex_pu (ls' := [vR 165, vI v1, vI v2, vI v3, vI v4]) (st' := [vR 165]) (dg dc284 21 rfl) rfl rfl ?_
        refine ex_getO (dg dc284 22 rfl) rfl (LOC.st (Nat.le_of_ble_eq_true rfl) rfl) rfl ?_
        show EX Z _ 284 _ [vR 165, vI v1, vI v2, vI v3, vI v4] [vR 170] _ _
        refine ex_pu (ls' := [vR 165, vI v1, vI v2, vI v3, vI v4]) (st' := [vI v4, vR 170]) (dg dc284 23 rfl) rfl rfl ?_
        refine ex_bald (dg dc284 24 rfl) (LOC.st (Nat.le_of_ble_eq_true rfl) rfl) rfl hf (fun _ hf => ?_)
        refine ex_pu (ls' := [vR 165, vI v1, vI v2, vI v3, vI v4]) (st' := [vI 0, vI (M 170 (v4).toNat)]) (dg dc284 25 rfl) rfl rfl ?_
        refine ex_pu (ls' := [vR 165, vI v1, vI v2, vI v3, vI v4]) (st' := [vI v1, vI 0, vI (M 170 (v4).toNat)]) (dg dc284 26 rfl) rfl rfl ?_
        refine ex_cI (vs := [vI (M 170 (v4).toNat), vI 0, vI v1]) (st' := []) (F := (mo_in (M 170 (v4).toNat) 0 v1 M)) (Or.inl ⟨rfl, (dg dc284 27 rfl)⟩) rfl rfl (Or.inl rfl) rfl (fun _ r9 => mo_in_ok (Z := Z) (d := e9) (by omega)  r9) hf (fun z_6 M_5 he_4 hf => ?_)
        refine ex_if (t := 73) (dg dc284 28 rfl) rfl hf (fun _ hf => ?_) (fun _ hf => ?_)
        · refine ex_pu (ls' := [vR 165, vI v1, vI v2, vI v3, vI v4]) (st' := [vI 0]) (dg dc284 41 rfl) rfl rfl ?_
          refine ex_pu (ls' := [vR 165, vI v1, vI v2, vI 0, vI v4]) (st' := []) (dg dc284 42 rfl) rfl rfl ?_
          refine ex_pu (ls' := [vR 165, vI v1, vI v2, vI 0, vI (v4 + 2)]) (st' := []) (dg dc284 43 rfl) rfl rfl ?_
          refine ex_goto (t := 22) (dg dc284 44 rfl) rfl rfl ?_
          exact ih 0 (v4 + 2) M_5 hf
        · refine ex_pu (ls' := [vR 165, vI v1, vI v2, vI v3, vI v4]) (st' := [vR 165]) (dg dc284 29 rfl) rfl rfl ?_
          refine ex_getO (dg dc284 30 rfl) rfl (LOC.st (Nat.le_of_ble_eq_true rfl) rfl) rfl ?_
          show EX Z _ 284 _ [vR 165, vI v1, vI v2, vI v3, vI v4] [vR 170] _ _
          refine ex_pu (ls' := [vR 165, vI v1, vI v2, vI v3, vI v4]) (st' := [vI v4, vR 170]) (dg dc284 31 rfl) rfl rfl ?_
          refine ex_pu (ls' := [vR 165, vI v1, vI v2, vI v3, vI v4]) (st' := [vI 1, vI v4, vR 170]) (dg dc284 32 rfl) rfl rfl ?_
          refine ex_pu (ls' := [vR 165, vI v1, vI v2, vI v3, vI v4]) (st' := [vI (v4 + 1), vR 170]) (dg dc284 33 rfl) rfl rfl ?_
          refine ex_bald (dg dc284 34 rfl) (LOC.st (Nat.le_of_ble_eq_true rfl) rfl) rfl hf (fun _ hf => ?_)
          refine ex_pu (ls' := [vR 165, vI v1, vI v2, vI v3, vI v4]) (st' := [vI 0, vI (M_5 170 ((v4 + 1)).toNat)]) (dg dc284 35 rfl) rfl rfl ?_
          refine ex_pu (ls' := [vR 165, vI v1, vI v2, vI v3, vI v4]) (st' := [vI v2, vI 0, vI (M_5 170 ((v4 + 1)).toNat)]) (dg dc284 36 rfl) rfl rfl ?_
          refine ex_cI (vs := [vI (M_5 170 ((v4 + 1)).toNat), vI 0, vI v2]) (st' := []) (F := (mo_in (M_5 170 ((v4 + 1)).toNat) 0 v2 M_5)) (Or.inl ⟨rfl, (dg dc284 37 rfl)⟩) rfl rfl (Or.inl rfl) rfl (fun _ r9 => mo_in_ok (Z := Z) (d := e9) (by omega)  r9) hf (fun z_9 M_8 he_7 hf => ?_)
          refine ex_if (t := 73) (dg dc284 38 rfl) rfl hf (fun _ hf => ?_) (fun _ hf => ?_)
          · refine ex_pu (ls' := [vR 165, vI v1, vI v2, vI v3, vI v4]) (st' := [vI 0]) (dg dc284 41 rfl) rfl rfl ?_
            refine ex_pu (ls' := [vR 165, vI v1, vI v2, vI 0, vI v4]) (st' := []) (dg dc284 42 rfl) rfl rfl ?_
            refine ex_pu (ls' := [vR 165, vI v1, vI v2, vI 0, vI (v4 + 2)]) (st' := []) (dg dc284 43 rfl) rfl rfl ?_
            refine ex_goto (t := 22) (dg dc284 44 rfl) rfl rfl ?_
            exact ih 0 (v4 + 2) M_8 hf
          · refine ex_pu (ls' := [vR 165, vI v1, vI v2, vI v3, vI v4]) (st' := [vI 1]) (dg dc284 39 rfl) rfl rfl ?_
            refine ex_goto (t := 74) (dg dc284 40 rfl) rfl rfl ?_
            refine ex_pu (ls' := [vR 165, vI v1, vI v2, vI 1, vI v4]) (st' := []) (dg dc284 42 rfl) rfl rfl ?_
            refine ex_pu (ls' := [vR 165, vI v1, vI v2, vI 1, vI (v4 + 2)]) (st' := []) (dg dc284 43 rfl) rfl rfl ?_
            refine ex_goto (t := 22) (dg dc284 44 rfl) rfl rfl ?_
            exact ih 1 (v4 + 2) M_8 hf
def mo_readTwos_J18   (v1 v2 s0 : Int) (M : MM) : OR :=
  (mo_readTwos_L22 v1 v2 (fun v3_10 M_11 => (bif zo v3_10 then some (rI v3_10, M_11) else none)) FU s0 0 M)
set_option maxRecDepth 4000 in
theorem mo_readTwos_J18_ok {Z : Nat × (Nat → Int)} {d : Nat} (hd : 1 ≤ d)   {res : AR × MM}  : ∀ (v1 v2 s0 : Int) (M : MM) (j3 j4 : AV), mo_readTwos_J18   v1 v2 s0 M = some res → EX Z d 284 18 [vR 165, vI v1, vI v2, j3, j4] [vI s0] M res := by
  obtain ⟨e9, rfl⟩ : ∃ e9, d = e9 + 1 := ⟨d - 1, by omega⟩
  intro v1 v2 s0 M j3 j4 hf
  unfold mo_readTwos_J18 at hf
  refine ex_pu (ls' := [vR 165, vI v1, vI v2, vI s0, j4]) (st' := []) (dg dc284 10 rfl) rfl rfl ?_
  refine ex_pu (ls' := [vR 165, vI v1, vI v2, vI s0, j4]) (st' := [vI 0]) (dg dc284 11 rfl) rfl rfl ?_
  refine ex_pu (ls' := [vR 165, vI v1, vI v2, vI s0, vI 0]) (st' := []) (dg dc284 12 rfl) rfl rfl ?_
  refine mo_readTwos_L22_ok hd  ?_ FU s0 0 M hf
  · intro v3_10 M_11 j0_12 j1_13 j2_14 j4_15 hf
    refine ex_pu (ls' := [j0_12, j1_13, j2_14, vI v3_10, j4_15]) (st' := [vI v3_10]) (dg dc284 45 rfl) rfl rfl ?_
    exact ex_irb (dg dc284 46 rfl) rfl hf
def mo_readTwos (v1 : Int) (v2 : Int) (M : MM) : OR :=
  (bV (mo_uses  M) fun M_2 => (bif cmpB .ne ((w32 (M_2 165 10)).tmod (w32 2)) 0 then (mo_readTwos_J18   v1 v2 0 M_2) else (mo_readTwos_J18   v1 v2 1 M_2)))
set_option maxRecDepth 4000 in
theorem mo_readTwos_ok {Z : Nat × (Nat → Int)} {d : Nat} (hd : 1 ≤ d) {M : MM}  {v1 v2 : Int} {res : AR × MM} (hf : mo_readTwos v1 v2 M = some res) : EX Z d 284 0 (ent 284 [vR 165, vI v1, vI v2]) [] M res := by
  obtain ⟨e9, rfl⟩ : ∃ e9, d = e9 + 1 := ⟨d - 1, by omega⟩
  unfold mo_readTwos at hf
  show EX Z _ 284 0 [vR 165, vI v1, vI v2, vU, vU] [] M res
  refine ex_pu (ls' := [vR 165, vI v1, vI v2, vU, vU]) (st' := [vR 165]) (dg dc284 0 rfl) rfl rfl ?_
  refine ex_cV (vs := [vR 165]) (st' := []) (F := (mo_uses  M)) (Or.inr (Or.inl ⟨rfl, (dg dc284 1 rfl)⟩)) rfl rfl (rk1 (LOC.st (Nat.le_of_ble_eq_true rfl) rfl) rfl) rfl (fun _ r9 => mo_uses_ok (Z := Z) (d := e9) (by omega)  r9) hf (fun M_2 he_1 hf => ?_)
  refine ex_pu (ls' := [vR 165, vI v1, vI v2, vU, vU]) (st' := [vR 165]) (dg dc284 2 rfl) rfl rfl ?_
  refine ex_getI (dg dc284 3 rfl) rfl (LOC.st (Nat.le_of_ble_eq_true rfl) rfl) rfl ?_
  refine ex_pu (ls' := [vR 165, vI v1, vI v2, vU, vU]) (st' := [vI 2, vI (M_2 165 10)]) (dg dc284 4 rfl) rfl rfl ?_
  refine ex_irem (dg dc284 5 rfl) (by decide +kernel) ?_
  refine ex_if (t := 17) (dg dc284 6 rfl) rfl hf (fun _ hf => ?_) (fun _ hf => ?_)
  · refine ex_pu (ls' := [vR 165, vI v1, vI v2, vU, vU]) (st' := [vI 0]) (dg dc284 9 rfl) rfl rfl ?_
    exact mo_readTwos_J18_ok hd   v1 v2 0 M_2 _ _ hf
  · refine ex_pu (ls' := [vR 165, vI v1, vI v2, vU, vU]) (st' := [vI 1]) (dg dc284 7 rfl) rfl rfl ?_
    refine ex_goto (t := 18) (dg dc284 8 rfl) rfl rfl ?_
    exact mo_readTwos_J18_ok hd   v1 v2 1 M_2 _ _ hf
-- GlassHillModel.canBe
def il285 : List (Nat × Instr × Nat) := [(0, .aload_n 0, 1), (1, .getfield 26, 3), (4, .iconst 2, 1), (5, .iload_n 1, 1), (6, .imul, 1), (7, .iconst 1, 1), (8, .iadd, 1), (9, .baload, 1), (10, .aload_n 0, 1), (11, .iload_n 2, 1), (12, .iconst 1, 1), (13, .invokevirtual 287, 3), (16, .aload_n 0, 1), (17, .iload_n 2, 1), (18, .iconst 2, 1), (19, .invokevirtual 287, 3), (22, .invokestatic 325, 3), (25, .ifCond .eq 27, 3), (28, .aload_n 0, 1), (29, .iload_n 2, 1), (30, .iconst 3, 1), (31, .invokevirtual 287, 3), (34, .bipush 24, 2), (36, .irem, 1), (37, .aload_n 0, 1), (38, .getfield 26, 3), (41, .iconst 2, 1), (42, .iload_n 1, 1), (43, .imul, 1), (44, .baload, 1), (45, .if_icmp .gt 7, 3), (48, .iconst 1, 1), (49, .goto 4, 3), (52, .iconst 0, 1), (53, .ireturn, 1)]
theorem dc285 : dcs (mC 285) il285 := dc_of (by decide +kernel)
def mo_canBe (v1 : Int) (v2 : Int) (M : MM) : OR :=
  (bif inB ((2 * v1) + 1) 400 then (bI (mo_ofBrother v2 1 M) fun z_3 M_2 => (bI (mo_ofBrother v2 2 M_2) fun z_6 M_5 => (bI (mo_isFit (M 170 (((2 * v1) + 1)).toNat) z_3 z_6 M_5) fun z_9 M_8 => (bif cmpB .eq z_9 0 then some (rI 0, M_8) else (bI (mo_ofBrother v2 3 M_8) fun z_12 M_11 => (bif inB (2 * v1) 400 then (bif cmpB .gt ((w32 z_12).tmod (w32 24)) (M_11 170 ((2 * v1)).toNat) then some (rI 0, M_11) else some (rI 1, M_11)) else none)))))) else none)
set_option maxRecDepth 4000 in
theorem mo_canBe_ok {Z : Nat × (Nat → Int)} {d : Nat} (hd : 1 ≤ d) {M : MM}  {v1 v2 : Int} {res : AR × MM} (hf : mo_canBe v1 v2 M = some res) : EX Z d 285 0 (ent 285 [vR 165, vI v1, vI v2]) [] M res := by
  obtain ⟨e9, rfl⟩ : ∃ e9, d = e9 + 1 := ⟨d - 1, by omega⟩
  unfold mo_canBe at hf
  show EX Z _ 285 0 [vR 165, vI v1, vI v2] [] M res
  refine ex_pu (ls' := [vR 165, vI v1, vI v2]) (st' := [vR 165]) (dg dc285 0 rfl) rfl rfl ?_
  refine ex_getO (dg dc285 1 rfl) rfl (LOC.st (Nat.le_of_ble_eq_true rfl) rfl) rfl ?_
  show EX Z _ 285 _ [vR 165, vI v1, vI v2] [vR 170] _ _
  refine ex_pu (ls' := [vR 165, vI v1, vI v2]) (st' := [vI 2, vR 170]) (dg dc285 2 rfl) rfl rfl ?_
  refine ex_pu (ls' := [vR 165, vI v1, vI v2]) (st' := [vI v1, vI 2, vR 170]) (dg dc285 3 rfl) rfl rfl ?_
  refine ex_pu (ls' := [vR 165, vI v1, vI v2]) (st' := [vI (2 * v1), vR 170]) (dg dc285 4 rfl) rfl rfl ?_
  refine ex_pu (ls' := [vR 165, vI v1, vI v2]) (st' := [vI 1, vI (2 * v1), vR 170]) (dg dc285 5 rfl) rfl rfl ?_
  refine ex_pu (ls' := [vR 165, vI v1, vI v2]) (st' := [vI ((2 * v1) + 1), vR 170]) (dg dc285 6 rfl) rfl rfl ?_
  refine ex_bald (dg dc285 7 rfl) (LOC.st (Nat.le_of_ble_eq_true rfl) rfl) rfl hf (fun _ hf => ?_)
  refine ex_pu (ls' := [vR 165, vI v1, vI v2]) (st' := [vR 165, vI (M 170 (((2 * v1) + 1)).toNat)]) (dg dc285 8 rfl) rfl rfl ?_
  refine ex_pu (ls' := [vR 165, vI v1, vI v2]) (st' := [vI v2, vR 165, vI (M 170 (((2 * v1) + 1)).toNat)]) (dg dc285 9 rfl) rfl rfl ?_
  refine ex_pu (ls' := [vR 165, vI v1, vI v2]) (st' := [vI 1, vI v2, vR 165, vI (M 170 (((2 * v1) + 1)).toNat)]) (dg dc285 10 rfl) rfl rfl ?_
  refine ex_cI (vs := [vR 165, vI v2, vI 1]) (st' := [vI (M 170 (((2 * v1) + 1)).toNat)]) (F := (mo_ofBrother v2 1 M)) (Or.inr (Or.inl ⟨rfl, (dg dc285 11 rfl)⟩)) rfl rfl (rk1 (LOC.st (Nat.le_of_ble_eq_true rfl) rfl) rfl) rfl (fun _ r9 => mo_ofBrother_ok (Z := Z) (d := e9) (by omega)  r9) hf (fun z_3 M_2 he_1 hf => ?_)
  refine ex_pu (ls' := [vR 165, vI v1, vI v2]) (st' := [vR 165, vI z_3, vI (M 170 (((2 * v1) + 1)).toNat)]) (dg dc285 12 rfl) rfl rfl ?_
  refine ex_pu (ls' := [vR 165, vI v1, vI v2]) (st' := [vI v2, vR 165, vI z_3, vI (M 170 (((2 * v1) + 1)).toNat)]) (dg dc285 13 rfl) rfl rfl ?_
  refine ex_pu (ls' := [vR 165, vI v1, vI v2]) (st' := [vI 2, vI v2, vR 165, vI z_3, vI (M 170 (((2 * v1) + 1)).toNat)]) (dg dc285 14 rfl) rfl rfl ?_
  refine ex_cI (vs := [vR 165, vI v2, vI 2]) (st' := [vI z_3, vI (M 170 (((2 * v1) + 1)).toNat)]) (F := (mo_ofBrother v2 2 M_2)) (Or.inr (Or.inl ⟨rfl, (dg dc285 15 rfl)⟩)) rfl rfl (rk1 (LOC.st (Nat.le_of_ble_eq_true rfl) rfl) rfl) rfl (fun _ r9 => mo_ofBrother_ok (Z := Z) (d := e9) (by omega)  r9) hf (fun z_6 M_5 he_4 hf => ?_)
  refine ex_cI (vs := [vI (M 170 (((2 * v1) + 1)).toNat), vI z_3, vI z_6]) (st' := []) (F := (mo_isFit (M 170 (((2 * v1) + 1)).toNat) z_3 z_6 M_5)) (Or.inl ⟨rfl, (dg dc285 16 rfl)⟩) rfl rfl (Or.inl rfl) rfl (fun _ r9 => mo_isFit_ok (Z := Z) (d := e9) (by omega)  r9) hf (fun z_9 M_8 he_7 hf => ?_)
  refine ex_if (t := 52) (dg dc285 17 rfl) rfl hf (fun _ hf => ?_) (fun _ hf => ?_)
  · refine ex_pu (ls' := [vR 165, vI v1, vI v2]) (st' := [vI 0]) (dg dc285 33 rfl) rfl rfl ?_
    exact ex_ire (dg dc285 34 rfl) rfl hf
  · refine ex_pu (ls' := [vR 165, vI v1, vI v2]) (st' := [vR 165]) (dg dc285 18 rfl) rfl rfl ?_
    refine ex_pu (ls' := [vR 165, vI v1, vI v2]) (st' := [vI v2, vR 165]) (dg dc285 19 rfl) rfl rfl ?_
    refine ex_pu (ls' := [vR 165, vI v1, vI v2]) (st' := [vI 3, vI v2, vR 165]) (dg dc285 20 rfl) rfl rfl ?_
    refine ex_cI (vs := [vR 165, vI v2, vI 3]) (st' := []) (F := (mo_ofBrother v2 3 M_8)) (Or.inr (Or.inl ⟨rfl, (dg dc285 21 rfl)⟩)) rfl rfl (rk1 (LOC.st (Nat.le_of_ble_eq_true rfl) rfl) rfl) rfl (fun _ r9 => mo_ofBrother_ok (Z := Z) (d := e9) (by omega)  r9) hf (fun z_12 M_11 he_10 hf => ?_)
    refine ex_pu (ls' := [vR 165, vI v1, vI v2]) (st' := [vI 24, vI z_12]) (dg dc285 22 rfl) rfl rfl ?_
    refine ex_irem (dg dc285 23 rfl) (by decide +kernel) ?_
    refine ex_pu (ls' := [vR 165, vI v1, vI v2]) (st' := [vR 165, vI ((w32 z_12).tmod (w32 24))]) (dg dc285 24 rfl) rfl rfl ?_
    refine ex_getO (dg dc285 25 rfl) rfl (LOC.st (Nat.le_of_ble_eq_true rfl) rfl) rfl ?_
    show EX Z _ 285 _ [vR 165, vI v1, vI v2] [vR 170, vI ((w32 z_12).tmod (w32 24))] _ _
    refine ex_pu (ls' := [vR 165, vI v1, vI v2]) (st' := [vI 2, vR 170, vI ((w32 z_12).tmod (w32 24))]) (dg dc285 26 rfl) rfl rfl ?_
    refine ex_pu (ls' := [vR 165, vI v1, vI v2]) (st' := [vI v1, vI 2, vR 170, vI ((w32 z_12).tmod (w32 24))]) (dg dc285 27 rfl) rfl rfl ?_
    refine ex_pu (ls' := [vR 165, vI v1, vI v2]) (st' := [vI (2 * v1), vR 170, vI ((w32 z_12).tmod (w32 24))]) (dg dc285 28 rfl) rfl rfl ?_
    refine ex_bald (dg dc285 29 rfl) (LOC.st (Nat.le_of_ble_eq_true rfl) rfl) rfl hf (fun _ hf => ?_)
    refine ex_icmp (t := 52) (dg dc285 30 rfl) rfl hf (fun _ hf => ?_) (fun _ hf => ?_)
    · refine ex_pu (ls' := [vR 165, vI v1, vI v2]) (st' := [vI 0]) (dg dc285 33 rfl) rfl rfl ?_
      exact ex_ire (dg dc285 34 rfl) rfl hf
    · refine ex_pu (ls' := [vR 165, vI v1, vI v2]) (st' := [vI 1]) (dg dc285 31 rfl) rfl rfl ?_
      refine ex_goto (t := 53) (dg dc285 32 rfl) rfl rfl ?_
      exact ex_ire (dg dc285 34 rfl) rfl hf
-- GlassHillModel.plates
def il286 : List (Nat × Instr × Nat) := [(0, .aload_n 0, 1), (1, .bipush 23, 2), (3, .bipush 15, 2), (5, .invokevirtual 484, 3), (8, .istore_n 2, 1), (9, .aload_n 0, 1), (10, .getfield 99, 3), (13, .iconst 2, 1), (14, .idiv, 1), (15, .istore_n 3, 1), (16, .aload_n 0, 1), (17, .iload_n 2, 1), (18, .ifCond .eq 20, 3), (21, .iload_n 3, 1), (22, .bipush 7, 2), (24, .if_icmp .gt 14, 3), (27, .iload_n 1, 1), (28, .iconst (-1), 1), (29, .iload_n 3, 1), (30, .iconst 1, 1), (31, .isub, 1), (32, .invokestatic 80, 3), (35, .ifCond .ne 7, 3), (38, .iconst 1, 1), (39, .goto 4, 3), (42, .iconst 0, 1), (43, .iconst 1, 1), (44, .invokevirtual 274, 3), (47, .ifCond .eq 5, 3), (50, .iconst 0, 1), (51, .ireturn, 1), (52, .iload_n 3, 1), (53, .istore 4, 2), (55, .iload 4, 2), (57, .ifCond .lt 131, 3), (60, .iconst 0, 1), (61, .istore 5, 2), (63, .iload 5, 2), (65, .iconst 1, 1), (66, .aload_n 0, 1), (67, .invokevirtual 90, 3), (70, .ishl, 1), (71, .if_icmp .ge 111, 3), (74, .iload 4, 2), (76, .iload_n 3, 1), (77, .if_icmp .ne 7, 3), (80, .iconst 1, 1), (81, .goto 4, 3), (84, .iconst 0, 1), (85, .istore 6, 2), (87, .iconst 0, 1), (88, .istore 7, 2), (90, .iload 7, 2), (92, .aload_n 0, 1), (93, .invokevirtual 90, 3), (96, .if_icmp .ge 65, 3), (99, .iload 4, 2), (101, .iload_n 3, 1), (102, .if_icmp .ge 59, 3), (105, .iload 6, 2), (107, .iload 5, 2), (109, .iload 7, 2), (111, .invokestatic 323, 3), (114, .ifCond .ne 37, 3), (117, .aload_n 0, 1), (118, .iload 4, 2), (120, .iload 7, 2), (122, .invokevirtual 487, 3), (125, .ifCond .eq 26, 3), (128, .aload_n 0, 1), (129, .getfield 62, 3), (132, .iload 4, 2), (134, .iconst 1, 1), (135, .iadd, 1), (136, .bipush 7, 2), (138, .ishl, 1), (139, .iload 5, 2), (141, .ior, 1), (142, .iconst 1, 1), (143, .iload 7, 2), (145, .ishl, 1), (146, .ior, 1), (147, .iaload, 1), (148, .goto 4, 3), (151, .iconst 0, 1), (152, .iadd, 1), (153, .istore 6, 2), (155, .iinc 7 1, 3), (158, .goto (-68), 3), (161, .aload_n 0, 1), (162, .getfield 62, 3), (165, .iload 4, 2), (167, .bipush 7, 2), (169, .ishl, 1), (170, .iload 5, 2), (172, .ior, 1), (173, .iload 6, 2), (175, .iastore, 1), (176, .iinc 5 1, 3), (179, .goto (-116), 3), (182, .iinc 4 (-1), 3), (185, .goto (-130), 3), (188, .iload_n 1, 1), (189, .iconst (-1), 1), (190, .if_icmp .eq 12, 3), (193, .aload_n 0, 1), (194, .getfield 62, 3), (197, .iconst 0, 1), (198, .iaload, 1), (199, .ifCond .ne 19, 3), (202, .iload_n 1, 1), (203, .iconst (-1), 1), (204, .if_icmp .ne 12, 3), (207, .aload_n 0, 1), (208, .getfield 62, 3), (211, .iconst 0, 1), (212, .iaload, 1), (213, .goto 4, 3), (216, .iconst (-1), 1), (217, .ireturn, 1), (218, .iconst 0, 1), (219, .istore 4, 2), (221, .iconst (-1), 1), (222, .istore 5, 2), (224, .iconst 0, 1), (225, .istore 6, 2), (227, .iload 6, 2), (229, .iload_n 1, 1), (230, .if_icmp .gt 71, 3), (233, .iconst 0, 1), (234, .istore 5, 2), (236, .iload 4, 2), (238, .iload 5, 2), (240, .invokestatic 323, 3), (243, .ifCond .ne 37, 3), (246, .aload_n 0, 1), (247, .iload 6, 2), (249, .iload 5, 2), (251, .invokevirtual 487, 3), (254, .ifCond .eq 26, 3), (257, .aload_n 0, 1), (258, .getfield 62, 3), (261, .iload 6, 2), (263, .iconst 1, 1), (264, .iadd, 1), (265, .bipush 7, 2), (267, .ishl, 1), (268, .iload 4, 2), (270, .ior, 1), (271, .iconst 1, 1), (272, .iload 5, 2), (274, .ishl, 1), (275, .ior, 1), (276, .iaload, 1), (277, .ifCond .ne 9, 3), (280, .iinc 5 1, 3), (283, .goto (-47), 3), (286, .iload 4, 2), (288, .iconst 1, 1), (289, .iload 5, 2), (291, .ishl, 1), (292, .ior, 1), (293, .istore 4, 2), (295, .iinc 6 1, 3), (298, .goto (-71), 3), (301, .iload 5, 2), (303, .ireturn, 1)]
theorem dc286 : dcs (mC 286) il286 := dc_of (by decide +kernel)
def mo_plates_L90  (v1 v3 v4 v5 : Int) (K1 : Int → MM → OR) : Nat → Int → Int → MM → OR
  | 0, _, _, _ => none
  | n + 1, v6, v7, M => (bI (mo_brothers  M) fun z_12 M_11 => (bif cmpB .ge v7 z_12 then (K1 v6 M_11) else (bif cmpB .ge v4 v3 then (K1 v6 M_11) else (bI (mo_has v5 v7 M_11) fun z_15 M_14 => (bif cmpB .ne z_15 0 then (mo_plates_L90 v1 v3 v4 v5 K1 n (v6 + 0) (v7 + 1) M_14) else (bI (mo_canBe v4 v7 M_14) fun z_18 M_17 => (bif cmpB .eq z_18 0 then (mo_plates_L90 v1 v3 v4 v5 K1 n (v6 + 0) (v7 + 1) M_17) else (bif inB (iOr (iOr (iShl (v4 + 1) 7) v5) (iShl 1 v7)) 1024 then (mo_plates_L90 v1 v3 v4 v5 K1 n (v6 + (M_17 180 ((iOr (iOr (iShl (v4 + 1) 7) v5) (iShl 1 v7))).toNat)) (v7 + 1) M_17) else none))))))))
set_option maxRecDepth 4000 in
theorem mo_plates_L90_ok {Z : Nat × (Nat → Int)} {d : Nat} (hd : 2 ≤ d)  {v1 v3 v4 v5 : Int} {K1 : Int → MM → OR} {res : AR × MM} (k1 : ∀ (x6 : Int) (M : MM) (j2 j7 : AV), K1 x6 M = some res → EX Z d 286 161 [vR 165, vI v1, j2, vI v3, vI v4, vI v5, vI x6, j7] [] M res) : ∀ (n : Nat) (v6 v7 : Int) (M : MM) (j2 : AV), mo_plates_L90 v1 v3 v4 v5 K1 n v6 v7 M = some res → EX Z d 286 90 [vR 165, vI v1, j2, vI v3, vI v4, vI v5, vI v6, vI v7] [] M res := by
  obtain ⟨e9, rfl⟩ : ∃ e9, d = e9 + 1 := ⟨d - 1, by omega⟩
  intro n
  induction n with
  | zero =>
    intro v6 v7 M j2 hf
    unfold mo_plates_L90 at hf
    cases hf
  | succ n ih =>
    intro v6 v7 M j2 hf
    unfold mo_plates_L90 at hf
    refine ex_pu (ls' := [vR 165, vI v1, j2, vI v3, vI v4, vI v5, vI v6, vI v7]) (st' := [vI v7]) (dg dc286 52 rfl) rfl rfl ?_
    refine ex_pu (ls' := [vR 165, vI v1, j2, vI v3, vI v4, vI v5, vI v6, vI v7]) (st' := [vR 165, vI v7]) (dg dc286 53 rfl) rfl rfl ?_
    refine ex_cI (vs := [vR 165]) (st' := [vI v7]) (F := (mo_brothers  M)) (Or.inr (Or.inl ⟨rfl, (dg dc286 54 rfl)⟩)) rfl rfl (rk1 (LOC.st (Nat.le_of_ble_eq_true rfl) rfl) rfl) rfl (fun _ r9 => mo_brothers_ok (Z := Z) (d := e9) (by omega)  r9) hf (fun z_12 M_11 he_10 hf => ?_)
    refine ex_icmp (t := 161) (dg dc286 55 rfl) rfl hf (fun _ hf => ?_) (fun _ hf => ?_)
    · exact k1 v6 M_11 _ _ hf
    · refine ex_pu (ls' := [vR 165, vI v1, j2, vI v3, vI v4, vI v5, vI v6, vI v7]) (st' := [vI v4]) (dg dc286 56 rfl) rfl rfl ?_
      refine ex_pu (ls' := [vR 165, vI v1, j2, vI v3, vI v4, vI v5, vI v6, vI v7]) (st' := [vI v3, vI v4]) (dg dc286 57 rfl) rfl rfl ?_
      refine ex_icmp (t := 161) (dg dc286 58 rfl) rfl hf (fun _ hf => ?_) (fun _ hf => ?_)
      · exact k1 v6 M_11 _ _ hf
      · refine ex_pu (ls' := [vR 165, vI v1, j2, vI v3, vI v4, vI v5, vI v6, vI v7]) (st' := [vI v6]) (dg dc286 59 rfl) rfl rfl ?_
        refine ex_pu (ls' := [vR 165, vI v1, j2, vI v3, vI v4, vI v5, vI v6, vI v7]) (st' := [vI v5, vI v6]) (dg dc286 60 rfl) rfl rfl ?_
        refine ex_pu (ls' := [vR 165, vI v1, j2, vI v3, vI v4, vI v5, vI v6, vI v7]) (st' := [vI v7, vI v5, vI v6]) (dg dc286 61 rfl) rfl rfl ?_
        refine ex_cI (vs := [vI v5, vI v7]) (st' := [vI v6]) (F := (mo_has v5 v7 M_11)) (Or.inl ⟨rfl, (dg dc286 62 rfl)⟩) rfl rfl (Or.inl rfl) rfl (fun _ r9 => mo_has_ok (Z := Z) (d := e9) (by omega)  r9) hf (fun z_15 M_14 he_13 hf => ?_)
        refine ex_if (t := 151) (dg dc286 63 rfl) rfl hf (fun _ hf => ?_) (fun _ hf => ?_)
        · refine ex_pu (ls' := [vR 165, vI v1, j2, vI v3, vI v4, vI v5, vI v6, vI v7]) (st' := [vI 0, vI v6]) (dg dc286 84 rfl) rfl rfl ?_
          refine ex_pu (ls' := [vR 165, vI v1, j2, vI v3, vI v4, vI v5, vI v6, vI v7]) (st' := [vI (v6 + 0)]) (dg dc286 85 rfl) rfl rfl ?_
          refine ex_pu (ls' := [vR 165, vI v1, j2, vI v3, vI v4, vI v5, vI (v6 + 0), vI v7]) (st' := []) (dg dc286 86 rfl) rfl rfl ?_
          refine ex_pu (ls' := [vR 165, vI v1, j2, vI v3, vI v4, vI v5, vI (v6 + 0), vI (v7 + 1)]) (st' := []) (dg dc286 87 rfl) rfl rfl ?_
          refine ex_goto (t := 90) (dg dc286 88 rfl) rfl rfl ?_
          exact ih (v6 + 0) (v7 + 1) M_14 _ hf
        · refine ex_pu (ls' := [vR 165, vI v1, j2, vI v3, vI v4, vI v5, vI v6, vI v7]) (st' := [vR 165, vI v6]) (dg dc286 64 rfl) rfl rfl ?_
          refine ex_pu (ls' := [vR 165, vI v1, j2, vI v3, vI v4, vI v5, vI v6, vI v7]) (st' := [vI v4, vR 165, vI v6]) (dg dc286 65 rfl) rfl rfl ?_
          refine ex_pu (ls' := [vR 165, vI v1, j2, vI v3, vI v4, vI v5, vI v6, vI v7]) (st' := [vI v7, vI v4, vR 165, vI v6]) (dg dc286 66 rfl) rfl rfl ?_
          refine ex_cI (vs := [vR 165, vI v4, vI v7]) (st' := [vI v6]) (F := (mo_canBe v4 v7 M_14)) (Or.inr (Or.inl ⟨rfl, (dg dc286 67 rfl)⟩)) rfl rfl (rk1 (LOC.st (Nat.le_of_ble_eq_true rfl) rfl) rfl) rfl (fun _ r9 => mo_canBe_ok (Z := Z) (d := e9) (by omega)  r9) hf (fun z_18 M_17 he_16 hf => ?_)
          refine ex_if (t := 151) (dg dc286 68 rfl) rfl hf (fun _ hf => ?_) (fun _ hf => ?_)
          · refine ex_pu (ls' := [vR 165, vI v1, j2, vI v3, vI v4, vI v5, vI v6, vI v7]) (st' := [vI 0, vI v6]) (dg dc286 84 rfl) rfl rfl ?_
            refine ex_pu (ls' := [vR 165, vI v1, j2, vI v3, vI v4, vI v5, vI v6, vI v7]) (st' := [vI (v6 + 0)]) (dg dc286 85 rfl) rfl rfl ?_
            refine ex_pu (ls' := [vR 165, vI v1, j2, vI v3, vI v4, vI v5, vI (v6 + 0), vI v7]) (st' := []) (dg dc286 86 rfl) rfl rfl ?_
            refine ex_pu (ls' := [vR 165, vI v1, j2, vI v3, vI v4, vI v5, vI (v6 + 0), vI (v7 + 1)]) (st' := []) (dg dc286 87 rfl) rfl rfl ?_
            refine ex_goto (t := 90) (dg dc286 88 rfl) rfl rfl ?_
            exact ih (v6 + 0) (v7 + 1) M_17 _ hf
          · refine ex_pu (ls' := [vR 165, vI v1, j2, vI v3, vI v4, vI v5, vI v6, vI v7]) (st' := [vR 165, vI v6]) (dg dc286 69 rfl) rfl rfl ?_
            refine ex_getO (dg dc286 70 rfl) rfl (LOC.st (Nat.le_of_ble_eq_true rfl) rfl) rfl ?_
            show EX Z _ 286 _ [vR 165, vI v1, j2, vI v3, vI v4, vI v5, vI v6, vI v7] [vR 180, vI v6] _ _
            refine ex_pu (ls' := [vR 165, vI v1, j2, vI v3, vI v4, vI v5, vI v6, vI v7]) (st' := [vI v4, vR 180, vI v6]) (dg dc286 71 rfl) rfl rfl ?_
            refine ex_pu (ls' := [vR 165, vI v1, j2, vI v3, vI v4, vI v5, vI v6, vI v7]) (st' := [vI 1, vI v4, vR 180, vI v6]) (dg dc286 72 rfl) rfl rfl ?_
            refine ex_pu (ls' := [vR 165, vI v1, j2, vI v3, vI v4, vI v5, vI v6, vI v7]) (st' := [vI (v4 + 1), vR 180, vI v6]) (dg dc286 73 rfl) rfl rfl ?_
            refine ex_pu (ls' := [vR 165, vI v1, j2, vI v3, vI v4, vI v5, vI v6, vI v7]) (st' := [vI 7, vI (v4 + 1), vR 180, vI v6]) (dg dc286 74 rfl) rfl rfl ?_
            refine ex_pu (ls' := [vR 165, vI v1, j2, vI v3, vI v4, vI v5, vI v6, vI v7]) (st' := [vI (iShl (v4 + 1) 7), vR 180, vI v6]) (dg dc286 75 rfl) rfl rfl ?_
            refine ex_pu (ls' := [vR 165, vI v1, j2, vI v3, vI v4, vI v5, vI v6, vI v7]) (st' := [vI v5, vI (iShl (v4 + 1) 7), vR 180, vI v6]) (dg dc286 76 rfl) rfl rfl ?_
            refine ex_pu (ls' := [vR 165, vI v1, j2, vI v3, vI v4, vI v5, vI v6, vI v7]) (st' := [vI (iOr (iShl (v4 + 1) 7) v5), vR 180, vI v6]) (dg dc286 77 rfl) rfl rfl ?_
            refine ex_pu (ls' := [vR 165, vI v1, j2, vI v3, vI v4, vI v5, vI v6, vI v7]) (st' := [vI 1, vI (iOr (iShl (v4 + 1) 7) v5), vR 180, vI v6]) (dg dc286 78 rfl) rfl rfl ?_
            refine ex_pu (ls' := [vR 165, vI v1, j2, vI v3, vI v4, vI v5, vI v6, vI v7]) (st' := [vI v7, vI 1, vI (iOr (iShl (v4 + 1) 7) v5), vR 180, vI v6]) (dg dc286 79 rfl) rfl rfl ?_
            refine ex_pu (ls' := [vR 165, vI v1, j2, vI v3, vI v4, vI v5, vI v6, vI v7]) (st' := [vI (iShl 1 v7), vI (iOr (iShl (v4 + 1) 7) v5), vR 180, vI v6]) (dg dc286 80 rfl) rfl rfl ?_
            refine ex_pu (ls' := [vR 165, vI v1, j2, vI v3, vI v4, vI v5, vI v6, vI v7]) (st' := [vI (iOr (iOr (iShl (v4 + 1) 7) v5) (iShl 1 v7)), vR 180, vI v6]) (dg dc286 81 rfl) rfl rfl ?_
            refine ex_iald (dg dc286 82 rfl) (LOC.st (Nat.le_of_ble_eq_true rfl) rfl) rfl hf (fun _ hf => ?_)
            refine ex_goto (t := 152) (dg dc286 83 rfl) rfl rfl ?_
            refine ex_pu (ls' := [vR 165, vI v1, j2, vI v3, vI v4, vI v5, vI v6, vI v7]) (st' := [vI (v6 + (M_17 180 ((iOr (iOr (iShl (v4 + 1) 7) v5) (iShl 1 v7))).toNat))]) (dg dc286 85 rfl) rfl rfl ?_
            refine ex_pu (ls' := [vR 165, vI v1, j2, vI v3, vI v4, vI v5, vI (v6 + (M_17 180 ((iOr (iOr (iShl (v4 + 1) 7) v5) (iShl 1 v7))).toNat)), vI v7]) (st' := []) (dg dc286 86 rfl) rfl rfl ?_
            refine ex_pu (ls' := [vR 165, vI v1, j2, vI v3, vI v4, vI v5, vI (v6 + (M_17 180 ((iOr (iOr (iShl (v4 + 1) 7) v5) (iShl 1 v7))).toNat)), vI (v7 + 1)]) (st' := []) (dg dc286 87 rfl) rfl rfl ?_
            refine ex_goto (t := 90) (dg dc286 88 rfl) rfl rfl ?_
            exact ih (v6 + (M_17 180 ((iOr (iOr (iShl (v4 + 1) 7) v5) (iShl 1 v7))).toNat)) (v7 + 1) M_17 _ hf
def mo_plates_J85  (v1 v3 v4 : Int) (Kb : Int → MM → OR) (K1 : MM → OR) (v5 s0 : Int) (M : MM) : OR :=
  (mo_plates_L90 v1 v3 v4 v5 (fun v6_19 M_20 => (bif inB (iOr (iShl v4 7) v5) 1024 then (sM (mU M_20 180 ((iOr (iShl v4 7) v5)).toNat v6_19) fun M_23 => (Kb (v5 + 1) M_23)) else none)) FU s0 0 M)
set_option maxRecDepth 4000 in
theorem mo_plates_J85_ok {Z : Nat × (Nat → Int)} {d : Nat} (hd : 2 ≤ d)  {v1 v3 v4 : Int} {Kb : Int → MM → OR} {K1 : MM → OR} {res : AR × MM} (kb : ∀ (x5 : Int) (M : MM) (j2 j6 j7 : AV), Kb x5 M = some res → EX Z d 286 63 [vR 165, vI v1, j2, vI v3, vI v4, vI x5, j6, j7] [] M res) (k1 : ∀ (M : MM) (j2 j5 j6 j7 : AV), K1  M = some res → EX Z d 286 182 [vR 165, vI v1, j2, vI v3, vI v4, j5, j6, j7] [] M res) : ∀ (v5 s0 : Int) (M : MM) (j2 j6 j7 : AV), mo_plates_J85 v1 v3 v4 Kb K1 v5 s0 M = some res → EX Z d 286 85 [vR 165, vI v1, j2, vI v3, vI v4, vI v5, j6, j7] [vI s0] M res := by
  obtain ⟨e9, rfl⟩ : ∃ e9, d = e9 + 1 := ⟨d - 1, by omega⟩
  intro v5 s0 M j2 j6 j7 hf
  unfold mo_plates_J85 at hf
  refine ex_pu (ls' := [vR 165, vI v1, j2, vI v3, vI v4, vI v5, vI s0, j7]) (st' := []) (dg dc286 49 rfl) rfl rfl ?_
  refine ex_pu (ls' := [vR 165, vI v1, j2, vI v3, vI v4, vI v5, vI s0, j7]) (st' := [vI 0]) (dg dc286 50 rfl) rfl rfl ?_
  refine ex_pu (ls' := [vR 165, vI v1, j2, vI v3, vI v4, vI v5, vI s0, vI 0]) (st' := []) (dg dc286 51 rfl) rfl rfl ?_
  refine mo_plates_L90_ok hd  ?_ FU s0 0 M _ hf
  · intro v6_19 M_20 j2_21 j7_22 hf
    refine ex_pu (ls' := [vR 165, vI v1, j2_21, vI v3, vI v4, vI v5, vI v6_19, j7_22]) (st' := [vR 165]) (dg dc286 89 rfl) rfl rfl ?_
    refine ex_getO (dg dc286 90 rfl) rfl (LOC.st (Nat.le_of_ble_eq_true rfl) rfl) rfl ?_
    show EX Z _ 286 _ [vR 165, vI v1, j2_21, vI v3, vI v4, vI v5, vI v6_19, j7_22] [vR 180] _ _
    refine ex_pu (ls' := [vR 165, vI v1, j2_21, vI v3, vI v4, vI v5, vI v6_19, j7_22]) (st' := [vI v4, vR 180]) (dg dc286 91 rfl) rfl rfl ?_
    refine ex_pu (ls' := [vR 165, vI v1, j2_21, vI v3, vI v4, vI v5, vI v6_19, j7_22]) (st' := [vI 7, vI v4, vR 180]) (dg dc286 92 rfl) rfl rfl ?_
    refine ex_pu (ls' := [vR 165, vI v1, j2_21, vI v3, vI v4, vI v5, vI v6_19, j7_22]) (st' := [vI (iShl v4 7), vR 180]) (dg dc286 93 rfl) rfl rfl ?_
    refine ex_pu (ls' := [vR 165, vI v1, j2_21, vI v3, vI v4, vI v5, vI v6_19, j7_22]) (st' := [vI v5, vI (iShl v4 7), vR 180]) (dg dc286 94 rfl) rfl rfl ?_
    refine ex_pu (ls' := [vR 165, vI v1, j2_21, vI v3, vI v4, vI v5, vI v6_19, j7_22]) (st' := [vI (iOr (iShl v4 7) v5), vR 180]) (dg dc286 95 rfl) rfl rfl ?_
    refine ex_pu (ls' := [vR 165, vI v1, j2_21, vI v3, vI v4, vI v5, vI v6_19, j7_22]) (st' := [vI v6_19, vI (iOr (iShl v4 7) v5), vR 180]) (dg dc286 96 rfl) rfl rfl ?_
    refine ex_iast (dg dc286 97 rfl) (LOC.st (Nat.le_of_ble_eq_true rfl) rfl) rfl rfl hf (fun _ hf => ?_)
    refine ex_gen hf (fun M_23 hM_24 hf => ?_)
    refine ex_pu (ls' := [vR 165, vI v1, j2_21, vI v3, vI v4, vI (v5 + 1), vI v6_19, j7_22]) (st' := []) (dg dc286 98 rfl) rfl rfl ?_
    refine ex_goto (t := 63) (dg dc286 99 rfl) rfl rfl ?_
    exact kb (v5 + 1) M_23 _ _ _ hf
def mo_plates_L63  (v1 v3 v4 : Int) (K1 : MM → OR) : Nat → Int → MM → OR
  | 0, _, _ => none
  | n + 1, v5, M => (bI (mo_brothers  M) fun z_9 M_8 => (bif cmpB .ge v5 (iShl 1 z_9) then (K1  M_8) else (bif cmpB .ne v4 v3 then (mo_plates_J85 v1 v3 v4 (mo_plates_L63 v1 v3 v4 K1 n) K1 v5 0 M_8) else (mo_plates_J85 v1 v3 v4 (mo_plates_L63 v1 v3 v4 K1 n) K1 v5 1 M_8))))
set_option maxRecDepth 4000 in
theorem mo_plates_L63_ok {Z : Nat × (Nat → Int)} {d : Nat} (hd : 2 ≤ d)  {v1 v3 v4 : Int} {K1 : MM → OR} {res : AR × MM} (k1 : ∀ (M : MM) (j2 j5 j6 j7 : AV), K1  M = some res → EX Z d 286 182 [vR 165, vI v1, j2, vI v3, vI v4, j5, j6, j7] [] M res) : ∀ (n : Nat) (v5 : Int) (M : MM) (j2 j6 j7 : AV), mo_plates_L63 v1 v3 v4 K1 n v5 M = some res → EX Z d 286 63 [vR 165, vI v1, j2, vI v3, vI v4, vI v5, j6, j7] [] M res := by
  obtain ⟨e9, rfl⟩ : ∃ e9, d = e9 + 1 := ⟨d - 1, by omega⟩
  intro n
  induction n with
  | zero =>
    intro v5 M j2 j6 j7 hf
    unfold mo_plates_L63 at hf
    cases hf
  | succ n ih =>
    intro v5 M j2 j6 j7 hf
    unfold mo_plates_L63 at hf
    refine ex_pu (ls' := [vR 165, vI v1, j2, vI v3, vI v4, vI v5, j6, j7]) (st' := [vI v5]) (dg dc286 37 rfl) rfl rfl ?_
    refine ex_pu (ls' := [vR 165, vI v1, j2, vI v3, vI v4, vI v5, j6, j7]) (st' := [vI 1, vI v5]) (dg dc286 38 rfl) rfl rfl ?_
    refine ex_pu (ls' := [vR 165, vI v1, j2, vI v3, vI v4, vI v5, j6, j7]) (st' := [vR 165, vI 1, vI v5]) (dg dc286 39 rfl) rfl rfl ?_
    refine ex_cI (vs := [vR 165]) (st' := [vI 1, vI v5]) (F := (mo_brothers  M)) (Or.inr (Or.inl ⟨rfl, (dg dc286 40 rfl)⟩)) rfl rfl (rk1 (LOC.st (Nat.le_of_ble_eq_true rfl) rfl) rfl) rfl (fun _ r9 => mo_brothers_ok (Z := Z) (d := e9) (by omega)  r9) hf (fun z_9 M_8 he_7 hf => ?_)
    refine ex_pu (ls' := [vR 165, vI v1, j2, vI v3, vI v4, vI v5, j6, j7]) (st' := [vI (iShl 1 z_9), vI v5]) (dg dc286 41 rfl) rfl rfl ?_
    refine ex_icmp (t := 182) (dg dc286 42 rfl) rfl hf (fun _ hf => ?_) (fun _ hf => ?_)
    · exact k1  M_8 _ _ _ _ hf
    · refine ex_pu (ls' := [vR 165, vI v1, j2, vI v3, vI v4, vI v5, j6, j7]) (st' := [vI v4]) (dg dc286 43 rfl) rfl rfl ?_
      refine ex_pu (ls' := [vR 165, vI v1, j2, vI v3, vI v4, vI v5, j6, j7]) (st' := [vI v3, vI v4]) (dg dc286 44 rfl) rfl rfl ?_
      refine ex_icmp (t := 84) (dg dc286 45 rfl) rfl hf (fun _ hf => ?_) (fun _ hf => ?_)
      · refine ex_pu (ls' := [vR 165, vI v1, j2, vI v3, vI v4, vI v5, j6, j7]) (st' := [vI 0]) (dg dc286 48 rfl) rfl rfl ?_
        exact mo_plates_J85_ok hd  ih k1 v5 0 M_8 _ _ _ hf
      · refine ex_pu (ls' := [vR 165, vI v1, j2, vI v3, vI v4, vI v5, j6, j7]) (st' := [vI 1]) (dg dc286 46 rfl) rfl rfl ?_
        refine ex_goto (t := 85) (dg dc286 47 rfl) rfl rfl ?_
        exact mo_plates_J85_ok hd  ih k1 v5 1 M_8 _ _ _ hf
def mo_plates_L55  (v1 v3 : Int) (K1 : MM → OR) : Nat → Int → MM → OR
  | 0, _, _ => none
  | n + 1, v4, M => (bif cmpB .lt v4 0 then (K1  M) else (mo_plates_L63 v1 v3 v4 (fun M_25 => (mo_plates_L55 v1 v3 K1 n (v4 + (-1)) M_25)) FU 0 M))
set_option maxRecDepth 4000 in
theorem mo_plates_L55_ok {Z : Nat × (Nat → Int)} {d : Nat} (hd : 2 ≤ d)  {v1 v3 : Int} {K1 : MM → OR} {res : AR × MM} (k1 : ∀ (M : MM) (j2 j3 j4 j5 j6 j7 : AV), K1  M = some res → EX Z d 286 188 [vR 165, vI v1, j2, j3, j4, j5, j6, j7] [] M res) : ∀ (n : Nat) (v4 : Int) (M : MM) (j2 j5 j6 j7 : AV), mo_plates_L55 v1 v3 K1 n v4 M = some res → EX Z d 286 55 [vR 165, vI v1, j2, vI v3, vI v4, j5, j6, j7] [] M res := by
  obtain ⟨e9, rfl⟩ : ∃ e9, d = e9 + 1 := ⟨d - 1, by omega⟩
  intro n
  induction n with
  | zero =>
    intro v4 M j2 j5 j6 j7 hf
    unfold mo_plates_L55 at hf
    cases hf
  | succ n ih =>
    intro v4 M j2 j5 j6 j7 hf
    unfold mo_plates_L55 at hf
    refine ex_pu (ls' := [vR 165, vI v1, j2, vI v3, vI v4, j5, j6, j7]) (st' := [vI v4]) (dg dc286 33 rfl) rfl rfl ?_
    refine ex_if (t := 188) (dg dc286 34 rfl) rfl hf (fun _ hf => ?_) (fun _ hf => ?_)
    · exact k1  M _ _ _ _ _ _ hf
    · refine ex_pu (ls' := [vR 165, vI v1, j2, vI v3, vI v4, j5, j6, j7]) (st' := [vI 0]) (dg dc286 35 rfl) rfl rfl ?_
      refine ex_pu (ls' := [vR 165, vI v1, j2, vI v3, vI v4, vI 0, j6, j7]) (st' := []) (dg dc286 36 rfl) rfl rfl ?_
      refine mo_plates_L63_ok hd  ?_ FU 0 M _ _ _ hf
      · intro M_25 j2_26 j5_27 j6_28 j7_29 hf
        refine ex_pu (ls' := [vR 165, vI v1, j2_26, vI v3, vI (v4 + (-1)), j5_27, j6_28, j7_29]) (st' := []) (dg dc286 100 rfl) rfl rfl ?_
        refine ex_goto (t := 55) (dg dc286 101 rfl) rfl rfl ?_
        exact ih (v4 + (-1)) M_25 _ _ _ _ hf
def mo_plates_L236  (v1 v4 v6 : Int) (K1 : Int → MM → OR) : Nat → Int → MM → OR
  | 0, _, _ => none
  | n + 1, v5, M => (bI (mo_has v4 v5 M) fun z_40 M_39 => (bif cmpB .ne z_40 0 then (mo_plates_L236 v1 v4 v6 K1 n (v5 + 1) M_39) else (bI (mo_canBe v6 v5 M_39) fun z_43 M_42 => (bif cmpB .eq z_43 0 then (mo_plates_L236 v1 v4 v6 K1 n (v5 + 1) M_42) else (bif inB (iOr (iOr (iShl (v6 + 1) 7) v4) (iShl 1 v5)) 1024 then (bif cmpB .ne (M_42 180 ((iOr (iOr (iShl (v6 + 1) 7) v4) (iShl 1 v5))).toNat) 0 then (K1 v5 M_42) else (mo_plates_L236 v1 v4 v6 K1 n (v5 + 1) M_42)) else none)))))
set_option maxRecDepth 4000 in
theorem mo_plates_L236_ok {Z : Nat × (Nat → Int)} {d : Nat} (hd : 2 ≤ d)  {v1 v4 v6 : Int} {K1 : Int → MM → OR} {res : AR × MM} (k1 : ∀ (x5 : Int) (M : MM) (j2 j3 j7 : AV), K1 x5 M = some res → EX Z d 286 286 [vR 165, vI v1, j2, j3, vI v4, vI x5, vI v6, j7] [] M res) : ∀ (n : Nat) (v5 : Int) (M : MM) (j2 j3 j7 : AV), mo_plates_L236 v1 v4 v6 K1 n v5 M = some res → EX Z d 286 236 [vR 165, vI v1, j2, j3, vI v4, vI v5, vI v6, j7] [] M res := by
  obtain ⟨e9, rfl⟩ : ∃ e9, d = e9 + 1 := ⟨d - 1, by omega⟩
  intro n
  induction n with
  | zero =>
    intro v5 M j2 j3 j7 hf
    unfold mo_plates_L236 at hf
    cases hf
  | succ n ih =>
    intro v5 M j2 j3 j7 hf
    unfold mo_plates_L236 at hf
    refine ex_pu (ls' := [vR 165, vI v1, j2, j3, vI v4, vI v5, vI v6, j7]) (st' := [vI v4]) (dg dc286 131 rfl) rfl rfl ?_
    refine ex_pu (ls' := [vR 165, vI v1, j2, j3, vI v4, vI v5, vI v6, j7]) (st' := [vI v5, vI v4]) (dg dc286 132 rfl) rfl rfl ?_
    refine ex_cI (vs := [vI v4, vI v5]) (st' := []) (F := (mo_has v4 v5 M)) (Or.inl ⟨rfl, (dg dc286 133 rfl)⟩) rfl rfl (Or.inl rfl) rfl (fun _ r9 => mo_has_ok (Z := Z) (d := e9) (by omega)  r9) hf (fun z_40 M_39 he_38 hf => ?_)
    refine ex_if (t := 280) (dg dc286 134 rfl) rfl hf (fun _ hf => ?_) (fun _ hf => ?_)
    · refine ex_pu (ls' := [vR 165, vI v1, j2, j3, vI v4, vI (v5 + 1), vI v6, j7]) (st' := []) (dg dc286 155 rfl) rfl rfl ?_
      refine ex_goto (t := 236) (dg dc286 156 rfl) rfl rfl ?_
      exact ih (v5 + 1) M_39 _ _ _ hf
    · refine ex_pu (ls' := [vR 165, vI v1, j2, j3, vI v4, vI v5, vI v6, j7]) (st' := [vR 165]) (dg dc286 135 rfl) rfl rfl ?_
      refine ex_pu (ls' := [vR 165, vI v1, j2, j3, vI v4, vI v5, vI v6, j7]) (st' := [vI v6, vR 165]) (dg dc286 136 rfl) rfl rfl ?_
      refine ex_pu (ls' := [vR 165, vI v1, j2, j3, vI v4, vI v5, vI v6, j7]) (st' := [vI v5, vI v6, vR 165]) (dg dc286 137 rfl) rfl rfl ?_
      refine ex_cI (vs := [vR 165, vI v6, vI v5]) (st' := []) (F := (mo_canBe v6 v5 M_39)) (Or.inr (Or.inl ⟨rfl, (dg dc286 138 rfl)⟩)) rfl rfl (rk1 (LOC.st (Nat.le_of_ble_eq_true rfl) rfl) rfl) rfl (fun _ r9 => mo_canBe_ok (Z := Z) (d := e9) (by omega)  r9) hf (fun z_43 M_42 he_41 hf => ?_)
      refine ex_if (t := 280) (dg dc286 139 rfl) rfl hf (fun _ hf => ?_) (fun _ hf => ?_)
      · refine ex_pu (ls' := [vR 165, vI v1, j2, j3, vI v4, vI (v5 + 1), vI v6, j7]) (st' := []) (dg dc286 155 rfl) rfl rfl ?_
        refine ex_goto (t := 236) (dg dc286 156 rfl) rfl rfl ?_
        exact ih (v5 + 1) M_42 _ _ _ hf
      · refine ex_pu (ls' := [vR 165, vI v1, j2, j3, vI v4, vI v5, vI v6, j7]) (st' := [vR 165]) (dg dc286 140 rfl) rfl rfl ?_
        refine ex_getO (dg dc286 141 rfl) rfl (LOC.st (Nat.le_of_ble_eq_true rfl) rfl) rfl ?_
        show EX Z _ 286 _ [vR 165, vI v1, j2, j3, vI v4, vI v5, vI v6, j7] [vR 180] _ _
        refine ex_pu (ls' := [vR 165, vI v1, j2, j3, vI v4, vI v5, vI v6, j7]) (st' := [vI v6, vR 180]) (dg dc286 142 rfl) rfl rfl ?_
        refine ex_pu (ls' := [vR 165, vI v1, j2, j3, vI v4, vI v5, vI v6, j7]) (st' := [vI 1, vI v6, vR 180]) (dg dc286 143 rfl) rfl rfl ?_
        refine ex_pu (ls' := [vR 165, vI v1, j2, j3, vI v4, vI v5, vI v6, j7]) (st' := [vI (v6 + 1), vR 180]) (dg dc286 144 rfl) rfl rfl ?_
        refine ex_pu (ls' := [vR 165, vI v1, j2, j3, vI v4, vI v5, vI v6, j7]) (st' := [vI 7, vI (v6 + 1), vR 180]) (dg dc286 145 rfl) rfl rfl ?_
        refine ex_pu (ls' := [vR 165, vI v1, j2, j3, vI v4, vI v5, vI v6, j7]) (st' := [vI (iShl (v6 + 1) 7), vR 180]) (dg dc286 146 rfl) rfl rfl ?_
        refine ex_pu (ls' := [vR 165, vI v1, j2, j3, vI v4, vI v5, vI v6, j7]) (st' := [vI v4, vI (iShl (v6 + 1) 7), vR 180]) (dg dc286 147 rfl) rfl rfl ?_
        refine ex_pu (ls' := [vR 165, vI v1, j2, j3, vI v4, vI v5, vI v6, j7]) (st' := [vI (iOr (iShl (v6 + 1) 7) v4), vR 180]) (dg dc286 148 rfl) rfl rfl ?_
        refine ex_pu (ls' := [vR 165, vI v1, j2, j3, vI v4, vI v5, vI v6, j7]) (st' := [vI 1, vI (iOr (iShl (v6 + 1) 7) v4), vR 180]) (dg dc286 149 rfl) rfl rfl ?_
        refine ex_pu (ls' := [vR 165, vI v1, j2, j3, vI v4, vI v5, vI v6, j7]) (st' := [vI v5, vI 1, vI (iOr (iShl (v6 + 1) 7) v4), vR 180]) (dg dc286 150 rfl) rfl rfl ?_
        refine ex_pu (ls' := [vR 165, vI v1, j2, j3, vI v4, vI v5, vI v6, j7]) (st' := [vI (iShl 1 v5), vI (iOr (iShl (v6 + 1) 7) v4), vR 180]) (dg dc286 151 rfl) rfl rfl ?_
        refine ex_pu (ls' := [vR 165, vI v1, j2, j3, vI v4, vI v5, vI v6, j7]) (st' := [vI (iOr (iOr (iShl (v6 + 1) 7) v4) (iShl 1 v5)), vR 180]) (dg dc286 152 rfl) rfl rfl ?_
        refine ex_iald (dg dc286 153 rfl) (LOC.st (Nat.le_of_ble_eq_true rfl) rfl) rfl hf (fun _ hf => ?_)
        refine ex_if (t := 286) (dg dc286 154 rfl) rfl hf (fun _ hf => ?_) (fun _ hf => ?_)
        · exact k1 v5 M_42 _ _ _ hf
        · refine ex_pu (ls' := [vR 165, vI v1, j2, j3, vI v4, vI (v5 + 1), vI v6, j7]) (st' := []) (dg dc286 155 rfl) rfl rfl ?_
          refine ex_goto (t := 236) (dg dc286 156 rfl) rfl rfl ?_
          exact ih (v5 + 1) M_42 _ _ _ hf
def mo_plates_L227  (v1 : Int) (K1 : Int → MM → OR) : Nat → Int → Int → Int → MM → OR
  | 0, _, _, _, _ => none
  | n + 1, v4, v5, v6, M => (bif cmpB .gt v6 v1 then (K1 v5 M) else (mo_plates_L236 v1 v4 v6 (fun v5_44 M_45 => (mo_plates_L227 v1 K1 n (iOr v4 (iShl 1 v5_44)) v5_44 (v6 + 1) M_45)) FU 0 M))
set_option maxRecDepth 4000 in
theorem mo_plates_L227_ok {Z : Nat × (Nat → Int)} {d : Nat} (hd : 2 ≤ d)  {v1 : Int} {K1 : Int → MM → OR} {res : AR × MM} (k1 : ∀ (x5 : Int) (M : MM) (j0 j1 j2 j3 j4 j6 j7 : AV), K1 x5 M = some res → EX Z d 286 301 [j0, j1, j2, j3, j4, vI x5, j6, j7] [] M res) : ∀ (n : Nat) (v4 v5 v6 : Int) (M : MM) (j2 j3 j7 : AV), mo_plates_L227 v1 K1 n v4 v5 v6 M = some res → EX Z d 286 227 [vR 165, vI v1, j2, j3, vI v4, vI v5, vI v6, j7] [] M res := by
  obtain ⟨e9, rfl⟩ : ∃ e9, d = e9 + 1 := ⟨d - 1, by omega⟩
  intro n
  induction n with
  | zero =>
    intro v4 v5 v6 M j2 j3 j7 hf
    unfold mo_plates_L227 at hf
    cases hf
  | succ n ih =>
    intro v4 v5 v6 M j2 j3 j7 hf
    unfold mo_plates_L227 at hf
    refine ex_pu (ls' := [vR 165, vI v1, j2, j3, vI v4, vI v5, vI v6, j7]) (st' := [vI v6]) (dg dc286 126 rfl) rfl rfl ?_
    refine ex_pu (ls' := [vR 165, vI v1, j2, j3, vI v4, vI v5, vI v6, j7]) (st' := [vI v1, vI v6]) (dg dc286 127 rfl) rfl rfl ?_
    refine ex_icmp (t := 301) (dg dc286 128 rfl) rfl hf (fun _ hf => ?_) (fun _ hf => ?_)
    · exact k1 v5 M _ _ _ _ _ _ _ hf
    · refine ex_pu (ls' := [vR 165, vI v1, j2, j3, vI v4, vI v5, vI v6, j7]) (st' := [vI 0]) (dg dc286 129 rfl) rfl rfl ?_
      refine ex_pu (ls' := [vR 165, vI v1, j2, j3, vI v4, vI 0, vI v6, j7]) (st' := []) (dg dc286 130 rfl) rfl rfl ?_
      refine mo_plates_L236_ok hd  ?_ FU 0 M _ _ _ hf
      · intro v5_44 M_45 j2_46 j3_47 j7_48 hf
        refine ex_pu (ls' := [vR 165, vI v1, j2_46, j3_47, vI v4, vI v5_44, vI v6, j7_48]) (st' := [vI v4]) (dg dc286 157 rfl) rfl rfl ?_
        refine ex_pu (ls' := [vR 165, vI v1, j2_46, j3_47, vI v4, vI v5_44, vI v6, j7_48]) (st' := [vI 1, vI v4]) (dg dc286 158 rfl) rfl rfl ?_
        refine ex_pu (ls' := [vR 165, vI v1, j2_46, j3_47, vI v4, vI v5_44, vI v6, j7_48]) (st' := [vI v5_44, vI 1, vI v4]) (dg dc286 159 rfl) rfl rfl ?_
        refine ex_pu (ls' := [vR 165, vI v1, j2_46, j3_47, vI v4, vI v5_44, vI v6, j7_48]) (st' := [vI (iShl 1 v5_44), vI v4]) (dg dc286 160 rfl) rfl rfl ?_
        refine ex_pu (ls' := [vR 165, vI v1, j2_46, j3_47, vI v4, vI v5_44, vI v6, j7_48]) (st' := [vI (iOr v4 (iShl 1 v5_44))]) (dg dc286 161 rfl) rfl rfl ?_
        refine ex_istD (dg dc286 162 rfl) rfl rfl (fun w_49 => ?_)
        show EX Z _ 286 _ [vR 165, vI v1, j2_46, w_49, vI (iOr v4 (iShl 1 v5_44)), vI v5_44, vI v6, j7_48] [] _ _
        refine ex_pu (ls' := [vR 165, vI v1, j2_46, w_49, vI (iOr v4 (iShl 1 v5_44)), vI v5_44, vI (v6 + 1), j7_48]) (st' := []) (dg dc286 163 rfl) rfl rfl ?_
        refine ex_goto (t := 227) (dg dc286 164 rfl) rfl rfl ?_
        exact ih (iOr v4 (iShl 1 v5_44)) v5_44 (v6 + 1) M_45 _ _ _ hf
def mo_plates_J43   (v1 v3 s0 : Int) (M : MM) : OR :=
  (bI (mo_throwsIf s0 1 M) fun z_6 M_5 => (bif cmpB .eq z_6 0 then (mo_plates_L55 v1 v3 (fun M_30 => (bif cmpB .eq v1 (-1) then (bif cmpB .ne v1 (-1) then some (rI (-1), M_30) else (bif inB 0 1024 then some (rI (M_30 180 0), M_30) else none)) else (bif inB 0 1024 then (bif cmpB .ne (M_30 180 0) 0 then (mo_plates_L227 v1 (fun v5_50 M_51 => some (rI v5_50, M_51)) FU 0 (-1) 0 M_30) else (bif cmpB .ne v1 (-1) then some (rI (-1), M_30) else (bif inB 0 1024 then some (rI (M_30 180 0), M_30) else none))) else none))) FU v3 M_5) else some (rI 0, M_5)))
set_option maxRecDepth 4000 in
theorem mo_plates_J43_ok {Z : Nat × (Nat → Int)} {d : Nat} (hd : 2 ≤ d)   {res : AR × MM}  : ∀ (v1 v3 s0 : Int) (M : MM) (j2 j4 j5 j6 j7 : AV), mo_plates_J43   v1 v3 s0 M = some res → EX Z d 286 43 [vR 165, vI v1, j2, vI v3, j4, j5, j6, j7] [vI s0, vR 165] M res := by
  obtain ⟨e9, rfl⟩ : ∃ e9, d = e9 + 1 := ⟨d - 1, by omega⟩
  intro v1 v3 s0 M j2 j4 j5 j6 j7 hf
  unfold mo_plates_J43 at hf
  refine ex_pu (ls' := [vR 165, vI v1, j2, vI v3, j4, j5, j6, j7]) (st' := [vI 1, vI s0, vR 165]) (dg dc286 26 rfl) rfl rfl ?_
  refine ex_cI (vs := [vR 165, vI s0, vI 1]) (st' := []) (F := (mo_throwsIf s0 1 M)) (Or.inr (Or.inl ⟨rfl, (dg dc286 27 rfl)⟩)) rfl rfl (rk1 (LOC.st (Nat.le_of_ble_eq_true rfl) rfl) rfl) rfl (fun _ r9 => mo_throwsIf_ok (Z := Z) (d := e9) (by omega)  r9) hf (fun z_6 M_5 he_4 hf => ?_)
  refine ex_if (t := 52) (dg dc286 28 rfl) rfl hf (fun _ hf => ?_) (fun _ hf => ?_)
  · refine ex_pu (ls' := [vR 165, vI v1, j2, vI v3, j4, j5, j6, j7]) (st' := [vI v3]) (dg dc286 31 rfl) rfl rfl ?_
    refine ex_pu (ls' := [vR 165, vI v1, j2, vI v3, vI v3, j5, j6, j7]) (st' := []) (dg dc286 32 rfl) rfl rfl ?_
    refine mo_plates_L55_ok hd  ?_ FU v3 M_5 _ _ _ _ hf
    · intro M_30 j2_31 j3_32 j4_33 j5_34 j6_35 j7_36 hf
      refine ex_pu (ls' := [vR 165, vI v1, j2_31, j3_32, j4_33, j5_34, j6_35, j7_36]) (st' := [vI v1]) (dg dc286 102 rfl) rfl rfl ?_
      refine ex_pu (ls' := [vR 165, vI v1, j2_31, j3_32, j4_33, j5_34, j6_35, j7_36]) (st' := [vI (-1), vI v1]) (dg dc286 103 rfl) rfl rfl ?_
      refine ex_icmp (t := 202) (dg dc286 104 rfl) rfl hf (fun _ hf => ?_) (fun _ hf => ?_)
      · refine ex_pu (ls' := [vR 165, vI v1, j2_31, j3_32, j4_33, j5_34, j6_35, j7_36]) (st' := [vI v1]) (dg dc286 110 rfl) rfl rfl ?_
        refine ex_pu (ls' := [vR 165, vI v1, j2_31, j3_32, j4_33, j5_34, j6_35, j7_36]) (st' := [vI (-1), vI v1]) (dg dc286 111 rfl) rfl rfl ?_
        refine ex_icmp (t := 216) (dg dc286 112 rfl) rfl hf (fun _ hf => ?_) (fun _ hf => ?_)
        · refine ex_pu (ls' := [vR 165, vI v1, j2_31, j3_32, j4_33, j5_34, j6_35, j7_36]) (st' := [vI (-1)]) (dg dc286 118 rfl) rfl rfl ?_
          exact ex_ire (dg dc286 119 rfl) rfl hf
        · refine ex_pu (ls' := [vR 165, vI v1, j2_31, j3_32, j4_33, j5_34, j6_35, j7_36]) (st' := [vR 165]) (dg dc286 113 rfl) rfl rfl ?_
          refine ex_getO (dg dc286 114 rfl) rfl (LOC.st (Nat.le_of_ble_eq_true rfl) rfl) rfl ?_
          show EX Z _ 286 _ [vR 165, vI v1, j2_31, j3_32, j4_33, j5_34, j6_35, j7_36] [vR 180] _ _
          refine ex_pu (ls' := [vR 165, vI v1, j2_31, j3_32, j4_33, j5_34, j6_35, j7_36]) (st' := [vI 0, vR 180]) (dg dc286 115 rfl) rfl rfl ?_
          refine ex_iald (dg dc286 116 rfl) (LOC.st (Nat.le_of_ble_eq_true rfl) rfl) rfl hf (fun _ hf => ?_)
          refine ex_goto (t := 217) (dg dc286 117 rfl) rfl rfl ?_
          exact ex_ire (dg dc286 119 rfl) rfl hf
      · refine ex_pu (ls' := [vR 165, vI v1, j2_31, j3_32, j4_33, j5_34, j6_35, j7_36]) (st' := [vR 165]) (dg dc286 105 rfl) rfl rfl ?_
        refine ex_getO (dg dc286 106 rfl) rfl (LOC.st (Nat.le_of_ble_eq_true rfl) rfl) rfl ?_
        show EX Z _ 286 _ [vR 165, vI v1, j2_31, j3_32, j4_33, j5_34, j6_35, j7_36] [vR 180] _ _
        refine ex_pu (ls' := [vR 165, vI v1, j2_31, j3_32, j4_33, j5_34, j6_35, j7_36]) (st' := [vI 0, vR 180]) (dg dc286 107 rfl) rfl rfl ?_
        refine ex_iald (dg dc286 108 rfl) (LOC.st (Nat.le_of_ble_eq_true rfl) rfl) rfl hf (fun _ hf => ?_)
        refine ex_if (t := 218) (dg dc286 109 rfl) rfl hf (fun _ hf => ?_) (fun _ hf => ?_)
        · refine ex_pu (ls' := [vR 165, vI v1, j2_31, j3_32, j4_33, j5_34, j6_35, j7_36]) (st' := [vI 0]) (dg dc286 120 rfl) rfl rfl ?_
          refine ex_istD (dg dc286 121 rfl) rfl rfl (fun w_37 => ?_)
          show EX Z _ 286 _ [vR 165, vI v1, j2_31, w_37, vI 0, j5_34, j6_35, j7_36] [] _ _
          refine ex_pu (ls' := [vR 165, vI v1, j2_31, w_37, vI 0, j5_34, j6_35, j7_36]) (st' := [vI (-1)]) (dg dc286 122 rfl) rfl rfl ?_
          refine ex_pu (ls' := [vR 165, vI v1, j2_31, w_37, vI 0, vI (-1), j6_35, j7_36]) (st' := []) (dg dc286 123 rfl) rfl rfl ?_
          refine ex_pu (ls' := [vR 165, vI v1, j2_31, w_37, vI 0, vI (-1), j6_35, j7_36]) (st' := [vI 0]) (dg dc286 124 rfl) rfl rfl ?_
          refine ex_pu (ls' := [vR 165, vI v1, j2_31, w_37, vI 0, vI (-1), vI 0, j7_36]) (st' := []) (dg dc286 125 rfl) rfl rfl ?_
          refine mo_plates_L227_ok hd  ?_ FU 0 (-1) 0 M_30 _ _ _ hf
          · intro v5_50 M_51 j0_52 j1_53 j2_54 j3_55 j4_56 j6_57 j7_58 hf
            refine ex_pu (ls' := [j0_52, j1_53, j2_54, j3_55, j4_56, vI v5_50, j6_57, j7_58]) (st' := [vI v5_50]) (dg dc286 165 rfl) rfl rfl ?_
            exact ex_ire (dg dc286 166 rfl) rfl hf
        · refine ex_pu (ls' := [vR 165, vI v1, j2_31, j3_32, j4_33, j5_34, j6_35, j7_36]) (st' := [vI v1]) (dg dc286 110 rfl) rfl rfl ?_
          refine ex_pu (ls' := [vR 165, vI v1, j2_31, j3_32, j4_33, j5_34, j6_35, j7_36]) (st' := [vI (-1), vI v1]) (dg dc286 111 rfl) rfl rfl ?_
          refine ex_icmp (t := 216) (dg dc286 112 rfl) rfl hf (fun _ hf => ?_) (fun _ hf => ?_)
          · refine ex_pu (ls' := [vR 165, vI v1, j2_31, j3_32, j4_33, j5_34, j6_35, j7_36]) (st' := [vI (-1)]) (dg dc286 118 rfl) rfl rfl ?_
            exact ex_ire (dg dc286 119 rfl) rfl hf
          · refine ex_pu (ls' := [vR 165, vI v1, j2_31, j3_32, j4_33, j5_34, j6_35, j7_36]) (st' := [vR 165]) (dg dc286 113 rfl) rfl rfl ?_
            refine ex_getO (dg dc286 114 rfl) rfl (LOC.st (Nat.le_of_ble_eq_true rfl) rfl) rfl ?_
            show EX Z _ 286 _ [vR 165, vI v1, j2_31, j3_32, j4_33, j5_34, j6_35, j7_36] [vR 180] _ _
            refine ex_pu (ls' := [vR 165, vI v1, j2_31, j3_32, j4_33, j5_34, j6_35, j7_36]) (st' := [vI 0, vR 180]) (dg dc286 115 rfl) rfl rfl ?_
            refine ex_iald (dg dc286 116 rfl) (LOC.st (Nat.le_of_ble_eq_true rfl) rfl) rfl hf (fun _ hf => ?_)
            refine ex_goto (t := 217) (dg dc286 117 rfl) rfl rfl ?_
            exact ex_ire (dg dc286 119 rfl) rfl hf
  · refine ex_pu (ls' := [vR 165, vI v1, j2, vI v3, j4, j5, j6, j7]) (st' := [vI 0]) (dg dc286 29 rfl) rfl rfl ?_
    exact ex_ire (dg dc286 30 rfl) rfl hf
def mo_plates_J38   (v1 v3 : Int) (M : MM) : OR :=
  (mo_plates_J43   v1 v3 1 M)
set_option maxRecDepth 4000 in
theorem mo_plates_J38_ok {Z : Nat × (Nat → Int)} {d : Nat} (hd : 2 ≤ d)   {res : AR × MM}  : ∀ (v1 v3 : Int) (M : MM) (j2 j4 j5 j6 j7 : AV), mo_plates_J38   v1 v3 M = some res → EX Z d 286 38 [vR 165, vI v1, j2, vI v3, j4, j5, j6, j7] [vR 165] M res := by
  obtain ⟨e9, rfl⟩ : ∃ e9, d = e9 + 1 := ⟨d - 1, by omega⟩
  intro v1 v3 M j2 j4 j5 j6 j7 hf
  unfold mo_plates_J38 at hf
  refine ex_pu (ls' := [vR 165, vI v1, j2, vI v3, j4, j5, j6, j7]) (st' := [vI 1, vR 165]) (dg dc286 23 rfl) rfl rfl ?_
  refine ex_goto (t := 43) (dg dc286 24 rfl) rfl rfl ?_
  exact mo_plates_J43_ok hd   v1 v3 1 M _ _ _ _ _ hf
def mo_plates (v1 : Int) (M : MM) : OR :=
  (bI (mo_readTwos 23 15 M) fun z_3 M_2 => (bif cmpB .eq z_3 0 then (mo_plates_J38   v1 ((w32 (M_2 165 10)).tdiv (w32 2)) M_2) else (bif cmpB .gt ((w32 (M_2 165 10)).tdiv (w32 2)) 7 then (mo_plates_J38   v1 ((w32 (M_2 165 10)).tdiv (w32 2)) M_2) else (bI (mo_in v1 (-1) (((w32 (M_2 165 10)).tdiv (w32 2)) - 1) M_2) fun z_61 M_60 => (bif cmpB .ne z_61 0 then (mo_plates_J43   v1 ((w32 (M_2 165 10)).tdiv (w32 2)) 0 M_60) else (mo_plates_J38   v1 ((w32 (M_2 165 10)).tdiv (w32 2)) M_60))))))
set_option maxRecDepth 4000 in
theorem mo_plates_ok {Z : Nat × (Nat → Int)} {d : Nat} (hd : 2 ≤ d) {M : MM}  {v1 : Int} {res : AR × MM} (hf : mo_plates v1 M = some res) : EX Z d 286 0 (ent 286 [vR 165, vI v1]) [] M res := by
  obtain ⟨e9, rfl⟩ : ∃ e9, d = e9 + 1 := ⟨d - 1, by omega⟩
  unfold mo_plates at hf
  show EX Z _ 286 0 [vR 165, vI v1, vU, vU, vU, vU, vU, vU] [] M res
  refine ex_pu (ls' := [vR 165, vI v1, vU, vU, vU, vU, vU, vU]) (st' := [vR 165]) (dg dc286 0 rfl) rfl rfl ?_
  refine ex_pu (ls' := [vR 165, vI v1, vU, vU, vU, vU, vU, vU]) (st' := [vI 23, vR 165]) (dg dc286 1 rfl) rfl rfl ?_
  refine ex_pu (ls' := [vR 165, vI v1, vU, vU, vU, vU, vU, vU]) (st' := [vI 15, vI 23, vR 165]) (dg dc286 2 rfl) rfl rfl ?_
  refine ex_cI (vs := [vR 165, vI 23, vI 15]) (st' := []) (F := (mo_readTwos 23 15 M)) (Or.inr (Or.inl ⟨rfl, (dg dc286 3 rfl)⟩)) rfl rfl (rk1 (LOC.st (Nat.le_of_ble_eq_true rfl) rfl) rfl) rfl (fun _ r9 => mo_readTwos_ok (Z := Z) (d := e9) (by omega)  r9) hf (fun z_3 M_2 he_1 hf => ?_)
  refine ex_pu (ls' := [vR 165, vI v1, vI z_3, vU, vU, vU, vU, vU]) (st' := []) (dg dc286 4 rfl) rfl rfl ?_
  refine ex_pu (ls' := [vR 165, vI v1, vI z_3, vU, vU, vU, vU, vU]) (st' := [vR 165]) (dg dc286 5 rfl) rfl rfl ?_
  refine ex_getI (dg dc286 6 rfl) rfl (LOC.st (Nat.le_of_ble_eq_true rfl) rfl) rfl ?_
  refine ex_pu (ls' := [vR 165, vI v1, vI z_3, vU, vU, vU, vU, vU]) (st' := [vI 2, vI (M_2 165 10)]) (dg dc286 7 rfl) rfl rfl ?_
  refine ex_idiv (dg dc286 8 rfl) (by decide +kernel) ?_
  refine ex_pu (ls' := [vR 165, vI v1, vI z_3, vI ((w32 (M_2 165 10)).tdiv (w32 2)), vU, vU, vU, vU]) (st' := []) (dg dc286 9 rfl) rfl rfl ?_
  refine ex_pu (ls' := [vR 165, vI v1, vI z_3, vI ((w32 (M_2 165 10)).tdiv (w32 2)), vU, vU, vU, vU]) (st' := [vR 165]) (dg dc286 10 rfl) rfl rfl ?_
  refine ex_pu (ls' := [vR 165, vI v1, vI z_3, vI ((w32 (M_2 165 10)).tdiv (w32 2)), vU, vU, vU, vU]) (st' := [vI z_3, vR 165]) (dg dc286 11 rfl) rfl rfl ?_
  refine ex_if (t := 38) (dg dc286 12 rfl) rfl hf (fun _ hf => ?_) (fun _ hf => ?_)
  · exact mo_plates_J38_ok hd   v1 ((w32 (M_2 165 10)).tdiv (w32 2)) M_2 _ _ _ _ _ hf
  · refine ex_pu (ls' := [vR 165, vI v1, vI z_3, vI ((w32 (M_2 165 10)).tdiv (w32 2)), vU, vU, vU, vU]) (st' := [vI ((w32 (M_2 165 10)).tdiv (w32 2)), vR 165]) (dg dc286 13 rfl) rfl rfl ?_
    refine ex_pu (ls' := [vR 165, vI v1, vI z_3, vI ((w32 (M_2 165 10)).tdiv (w32 2)), vU, vU, vU, vU]) (st' := [vI 7, vI ((w32 (M_2 165 10)).tdiv (w32 2)), vR 165]) (dg dc286 14 rfl) rfl rfl ?_
    refine ex_icmp (t := 38) (dg dc286 15 rfl) rfl hf (fun _ hf => ?_) (fun _ hf => ?_)
    · exact mo_plates_J38_ok hd   v1 ((w32 (M_2 165 10)).tdiv (w32 2)) M_2 _ _ _ _ _ hf
    · refine ex_pu (ls' := [vR 165, vI v1, vI z_3, vI ((w32 (M_2 165 10)).tdiv (w32 2)), vU, vU, vU, vU]) (st' := [vI v1, vR 165]) (dg dc286 16 rfl) rfl rfl ?_
      refine ex_pu (ls' := [vR 165, vI v1, vI z_3, vI ((w32 (M_2 165 10)).tdiv (w32 2)), vU, vU, vU, vU]) (st' := [vI (-1), vI v1, vR 165]) (dg dc286 17 rfl) rfl rfl ?_
      refine ex_pu (ls' := [vR 165, vI v1, vI z_3, vI ((w32 (M_2 165 10)).tdiv (w32 2)), vU, vU, vU, vU]) (st' := [vI ((w32 (M_2 165 10)).tdiv (w32 2)), vI (-1), vI v1, vR 165]) (dg dc286 18 rfl) rfl rfl ?_
      refine ex_pu (ls' := [vR 165, vI v1, vI z_3, vI ((w32 (M_2 165 10)).tdiv (w32 2)), vU, vU, vU, vU]) (st' := [vI 1, vI ((w32 (M_2 165 10)).tdiv (w32 2)), vI (-1), vI v1, vR 165]) (dg dc286 19 rfl) rfl rfl ?_
      refine ex_pu (ls' := [vR 165, vI v1, vI z_3, vI ((w32 (M_2 165 10)).tdiv (w32 2)), vU, vU, vU, vU]) (st' := [vI (((w32 (M_2 165 10)).tdiv (w32 2)) - 1), vI (-1), vI v1, vR 165]) (dg dc286 20 rfl) rfl rfl ?_
      refine ex_cI (vs := [vI v1, vI (-1), vI (((w32 (M_2 165 10)).tdiv (w32 2)) - 1)]) (st' := [vR 165]) (F := (mo_in v1 (-1) (((w32 (M_2 165 10)).tdiv (w32 2)) - 1) M_2)) (Or.inl ⟨rfl, (dg dc286 21 rfl)⟩) rfl rfl (Or.inl rfl) rfl (fun _ r9 => mo_in_ok (Z := Z) (d := e9) (by omega)  r9) hf (fun z_61 M_60 he_59 hf => ?_)
      refine ex_if (t := 42) (dg dc286 22 rfl) rfl hf (fun _ hf => ?_) (fun _ hf => ?_)
      · refine ex_pu (ls' := [vR 165, vI v1, vI z_3, vI ((w32 (M_2 165 10)).tdiv (w32 2)), vU, vU, vU, vU]) (st' := [vI 0, vR 165]) (dg dc286 25 rfl) rfl rfl ?_
        exact mo_plates_J43_ok hd   v1 ((w32 (M_2 165 10)).tdiv (w32 2)) 0 M_60 _ _ _ _ _ hf
      · exact mo_plates_J38_ok hd   v1 ((w32 (M_2 165 10)).tdiv (w32 2)) M_60 _ _ _ _ _ hf
-- GlassHillModel.tellsAll
def il287 : List (Nat × Instr × Nat) := [(0, .iconst 1, 1), (1, .istore_n 3, 1), (2, .iconst 0, 1), (3, .istore 4, 2), (5, .iload 4, 2), (7, .aload_n 0, 1), (8, .getfield 99, 3), (11, .if_icmp .ge 52, 3), (14, .iload_n 3, 1), (15, .ifCond .eq 48, 3), (18, .aload_n 0, 1), (19, .getfield 26, 3), (22, .iload 4, 2), (24, .baload, 1), (25, .iload_n 1, 1), (26, .iload_n 2, 1), (27, .invokestatic 325, 3), (30, .aload_n 0, 1), (31, .getfield 26, 3), (34, .iload 4, 2), (36, .iconst 1, 1), (37, .iadd, 1), (38, .baload, 1), (39, .iconst 1, 1), (40, .if_icmp .ne 7, 3), (43, .iconst 1, 1), (44, .goto 4, 3), (47, .iconst 0, 1), (48, .if_icmp .ne 7, 3), (51, .iconst 1, 1), (52, .goto 4, 3), (55, .iconst 0, 1), (56, .istore_n 3, 1), (57, .iinc 4 2, 3), (60, .goto (-55), 3), (63, .iload_n 3, 1), (64, .ireturn, 1)]
theorem dc287 : dcs (mC 287) il287 := dc_of (by decide +kernel)
def mo_tellsAll_L5  (v1 v2 : Int) (K1 : Int → MM → OR) : Nat → Int → Int → MM → OR
  | 0, _, _, _ => none
  | n + 1, v3, v4, M => (bif cmpB .ge v4 (M 165 10) then (K1 v3 M) else (bif cmpB .eq v3 0 then (K1 v3 M) else (bif inB v4 400 then (bI (mo_isFit (M 170 (v4).toNat) v1 v2 M) fun z_3 M_2 => (bif inB (v4 + 1) 400 then (bif cmpB .ne (M_2 170 ((v4 + 1)).toNat) 1 then (bif cmpB .ne z_3 0 then (mo_tellsAll_L5 v1 v2 K1 n 0 (v4 + 2) M_2) else (mo_tellsAll_L5 v1 v2 K1 n 1 (v4 + 2) M_2)) else (bif cmpB .ne z_3 1 then (mo_tellsAll_L5 v1 v2 K1 n 0 (v4 + 2) M_2) else (mo_tellsAll_L5 v1 v2 K1 n 1 (v4 + 2) M_2))) else none)) else none)))
set_option maxRecDepth 4000 in
theorem mo_tellsAll_L5_ok {Z : Nat × (Nat → Int)} {d : Nat} (hd : 1 ≤ d)  {v1 v2 : Int} {K1 : Int → MM → OR} {res : AR × MM} (k1 : ∀ (x3 : Int) (M : MM) (j0 j1 j2 j4 : AV), K1 x3 M = some res → EX Z d 287 63 [j0, j1, j2, vI x3, j4] [] M res) : ∀ (n : Nat) (v3 v4 : Int) (M : MM), mo_tellsAll_L5 v1 v2 K1 n v3 v4 M = some res → EX Z d 287 5 [vR 165, vI v1, vI v2, vI v3, vI v4] [] M res := by
  obtain ⟨e9, rfl⟩ : ∃ e9, d = e9 + 1 := ⟨d - 1, by omega⟩
  intro n
  induction n with
  | zero =>
    intro v3 v4 M hf
    unfold mo_tellsAll_L5 at hf
    cases hf
  | succ n ih =>
    intro v3 v4 M hf
    unfold mo_tellsAll_L5 at hf
    refine ex_pu (ls' := [vR 165, vI v1, vI v2, vI v3, vI v4]) (st' := [vI v4]) (dg dc287 4 rfl) rfl rfl ?_
    refine ex_pu (ls' := [vR 165, vI v1, vI v2, vI v3, vI v4]) (st' := [vR 165, vI v4]) (dg dc287 5 rfl) rfl rfl ?_
    refine ex_getI (dg dc287 6 rfl) rfl (LOC.st (Nat.le_of_ble_eq_true rfl) rfl) rfl ?_
    refine ex_icmp (t := 63) (dg dc287 7 rfl) rfl hf (fun _ hf => ?_) (fun _ hf => ?_)
    · exact k1 v3 M _ _ _ _ hf
    · refine ex_pu (ls' := [vR 165, vI v1, vI v2, vI v3, vI v4]) (st' := [vI v3]) (dg dc287 8 rfl) rfl rfl ?_
      refine ex_if (t := 63) (dg dc287 9 rfl) rfl hf (fun _ hf => ?_) (fun _ hf => ?_)
      · exact k1 v3 M _ _ _ _ hf
      · refine ex_pu (ls' := [vR 165, vI v1, vI v2, vI v3, vI v4]) (st' := [vR 165]) (dg dc287 10 rfl) rfl rfl ?_
        refine ex_getO (dg dc287 11 rfl) rfl (LOC.st (Nat.le_of_ble_eq_true rfl) rfl) rfl ?_
        show EX Z _ 287 _ [vR 165, vI v1, vI v2, vI v3, vI v4] [vR 170] _ _
        refine ex_pu (ls' := [vR 165, vI v1, vI v2, vI v3, vI v4]) (st' := [vI v4, vR 170]) (dg dc287 12 rfl) rfl rfl ?_
        refine ex_bald (dg dc287 13 rfl) (LOC.st (Nat.le_of_ble_eq_true rfl) rfl) rfl hf (fun _ hf => ?_)
        refine ex_pu (ls' := [vR 165, vI v1, vI v2, vI v3, vI v4]) (st' := [vI v1, vI (M 170 (v4).toNat)]) (dg dc287 14 rfl) rfl rfl ?_
        refine ex_pu (ls' := [vR 165, vI v1, vI v2, vI v3, vI v4]) (st' := [vI v2, vI v1, vI (M 170 (v4).toNat)]) (dg dc287 15 rfl) rfl rfl ?_
        refine ex_cI (vs := [vI (M 170 (v4).toNat), vI v1, vI v2]) (st' := []) (F := (mo_isFit (M 170 (v4).toNat) v1 v2 M)) (Or.inl ⟨rfl, (dg dc287 16 rfl)⟩) rfl rfl (Or.inl rfl) rfl (fun _ r9 => mo_isFit_ok (Z := Z) (d := e9) (by omega)  r9) hf (fun z_3 M_2 he_1 hf => ?_)
        refine ex_pu (ls' := [vR 165, vI v1, vI v2, vI v3, vI v4]) (st' := [vR 165, vI z_3]) (dg dc287 17 rfl) rfl rfl ?_
        refine ex_getO (dg dc287 18 rfl) rfl (LOC.st (Nat.le_of_ble_eq_true rfl) rfl) rfl ?_
        show EX Z _ 287 _ [vR 165, vI v1, vI v2, vI v3, vI v4] [vR 170, vI z_3] _ _
        refine ex_pu (ls' := [vR 165, vI v1, vI v2, vI v3, vI v4]) (st' := [vI v4, vR 170, vI z_3]) (dg dc287 19 rfl) rfl rfl ?_
        refine ex_pu (ls' := [vR 165, vI v1, vI v2, vI v3, vI v4]) (st' := [vI 1, vI v4, vR 170, vI z_3]) (dg dc287 20 rfl) rfl rfl ?_
        refine ex_pu (ls' := [vR 165, vI v1, vI v2, vI v3, vI v4]) (st' := [vI (v4 + 1), vR 170, vI z_3]) (dg dc287 21 rfl) rfl rfl ?_
        refine ex_bald (dg dc287 22 rfl) (LOC.st (Nat.le_of_ble_eq_true rfl) rfl) rfl hf (fun _ hf => ?_)
        refine ex_pu (ls' := [vR 165, vI v1, vI v2, vI v3, vI v4]) (st' := [vI 1, vI (M_2 170 ((v4 + 1)).toNat), vI z_3]) (dg dc287 23 rfl) rfl rfl ?_
        refine ex_icmp (t := 47) (dg dc287 24 rfl) rfl hf (fun _ hf => ?_) (fun _ hf => ?_)
        · refine ex_pu (ls' := [vR 165, vI v1, vI v2, vI v3, vI v4]) (st' := [vI 0, vI z_3]) (dg dc287 27 rfl) rfl rfl ?_
          refine ex_icmp (t := 55) (dg dc287 28 rfl) rfl hf (fun _ hf => ?_) (fun _ hf => ?_)
          · refine ex_pu (ls' := [vR 165, vI v1, vI v2, vI v3, vI v4]) (st' := [vI 0]) (dg dc287 31 rfl) rfl rfl ?_
            refine ex_pu (ls' := [vR 165, vI v1, vI v2, vI 0, vI v4]) (st' := []) (dg dc287 32 rfl) rfl rfl ?_
            refine ex_pu (ls' := [vR 165, vI v1, vI v2, vI 0, vI (v4 + 2)]) (st' := []) (dg dc287 33 rfl) rfl rfl ?_
            refine ex_goto (t := 5) (dg dc287 34 rfl) rfl rfl ?_
            exact ih 0 (v4 + 2) M_2 hf
          · refine ex_pu (ls' := [vR 165, vI v1, vI v2, vI v3, vI v4]) (st' := [vI 1]) (dg dc287 29 rfl) rfl rfl ?_
            refine ex_goto (t := 56) (dg dc287 30 rfl) rfl rfl ?_
            refine ex_pu (ls' := [vR 165, vI v1, vI v2, vI 1, vI v4]) (st' := []) (dg dc287 32 rfl) rfl rfl ?_
            refine ex_pu (ls' := [vR 165, vI v1, vI v2, vI 1, vI (v4 + 2)]) (st' := []) (dg dc287 33 rfl) rfl rfl ?_
            refine ex_goto (t := 5) (dg dc287 34 rfl) rfl rfl ?_
            exact ih 1 (v4 + 2) M_2 hf
        · refine ex_pu (ls' := [vR 165, vI v1, vI v2, vI v3, vI v4]) (st' := [vI 1, vI z_3]) (dg dc287 25 rfl) rfl rfl ?_
          refine ex_goto (t := 48) (dg dc287 26 rfl) rfl rfl ?_
          refine ex_icmp (t := 55) (dg dc287 28 rfl) rfl hf (fun _ hf => ?_) (fun _ hf => ?_)
          · refine ex_pu (ls' := [vR 165, vI v1, vI v2, vI v3, vI v4]) (st' := [vI 0]) (dg dc287 31 rfl) rfl rfl ?_
            refine ex_pu (ls' := [vR 165, vI v1, vI v2, vI 0, vI v4]) (st' := []) (dg dc287 32 rfl) rfl rfl ?_
            refine ex_pu (ls' := [vR 165, vI v1, vI v2, vI 0, vI (v4 + 2)]) (st' := []) (dg dc287 33 rfl) rfl rfl ?_
            refine ex_goto (t := 5) (dg dc287 34 rfl) rfl rfl ?_
            exact ih 0 (v4 + 2) M_2 hf
          · refine ex_pu (ls' := [vR 165, vI v1, vI v2, vI v3, vI v4]) (st' := [vI 1]) (dg dc287 29 rfl) rfl rfl ?_
            refine ex_goto (t := 56) (dg dc287 30 rfl) rfl rfl ?_
            refine ex_pu (ls' := [vR 165, vI v1, vI v2, vI 1, vI v4]) (st' := []) (dg dc287 32 rfl) rfl rfl ?_
            refine ex_pu (ls' := [vR 165, vI v1, vI v2, vI 1, vI (v4 + 2)]) (st' := []) (dg dc287 33 rfl) rfl rfl ?_
            refine ex_goto (t := 5) (dg dc287 34 rfl) rfl rfl ?_
            exact ih 1 (v4 + 2) M_2 hf
def mo_tellsAll (v1 : Int) (v2 : Int) (M : MM) : OR :=
  (mo_tellsAll_L5 v1 v2 (fun v3_4 M_5 => (bif zo v3_4 then some (rI v3_4, M_5) else none)) FU 1 0 M)
set_option maxRecDepth 4000 in
theorem mo_tellsAll_ok {Z : Nat × (Nat → Int)} {d : Nat} (hd : 1 ≤ d) {M : MM}  {v1 v2 : Int} {res : AR × MM} (hf : mo_tellsAll v1 v2 M = some res) : EX Z d 287 0 (ent 287 [vR 165, vI v1, vI v2]) [] M res := by
  obtain ⟨e9, rfl⟩ : ∃ e9, d = e9 + 1 := ⟨d - 1, by omega⟩
  unfold mo_tellsAll at hf
  show EX Z _ 287 0 [vR 165, vI v1, vI v2, vU, vU] [] M res
  refine ex_pu (ls' := [vR 165, vI v1, vI v2, vU, vU]) (st' := [vI 1]) (dg dc287 0 rfl) rfl rfl ?_
  refine ex_pu (ls' := [vR 165, vI v1, vI v2, vI 1, vU]) (st' := []) (dg dc287 1 rfl) rfl rfl ?_
  refine ex_pu (ls' := [vR 165, vI v1, vI v2, vI 1, vU]) (st' := [vI 0]) (dg dc287 2 rfl) rfl rfl ?_
  refine ex_pu (ls' := [vR 165, vI v1, vI v2, vI 1, vI 0]) (st' := []) (dg dc287 3 rfl) rfl rfl ?_
  refine mo_tellsAll_L5_ok hd  ?_ FU 1 0 M hf
  · intro v3_4 M_5 j0_6 j1_7 j2_8 j4_9 hf
    refine ex_pu (ls' := [j0_6, j1_7, j2_8, vI v3_4, j4_9]) (st' := [vI v3_4]) (dg dc287 35 rfl) rfl rfl ?_
    exact ex_irb (dg dc287 36 rfl) rfl hf
-- GlassHillModel.sews
def il289 : List (Nat × Instr × Nat) := [(0, .iconst 0, 1), (1, .istore 5, 2), (3, .iconst 0, 1), (4, .istore 6, 2), (6, .iconst 0, 1), (7, .istore 7, 2), (9, .iload 7, 2), (11, .iload_n 0, 1), (12, .if_icmp .ge 71, 3), (15, .iload 7, 2), (17, .iload 4, 2), (19, .if_icmp .eq 14, 3), (22, .lload_n 2, 1), (23, .iload 7, 2), (25, .lshr, 1), (26, .lconst 1, 1), (27, .land, 1), (28, .lconst 0, 1), (29, .lcmp, 1), (30, .ifCond .ne 7, 3), (33, .iconst 1, 1), (34, .goto 4, 3), (37, .iconst 0, 1), (38, .istore 8, 2), (40, .iload 8, 2), (42, .ifCond .eq 10, 3), (45, .iload 6, 2), (47, .iconst 1, 1), (48, .iadd, 1), (49, .goto 4, 3), (52, .iconst 0, 1), (53, .istore 6, 2), (55, .iload 5, 2), (57, .iload 8, 2), (59, .ifCond .eq 14, 3), (62, .iload 6, 2), (64, .iload_n 1, 1), (65, .irem, 1), (66, .ifCond .ne 7, 3), (69, .iconst 1, 1), (70, .goto 4, 3), (73, .iconst 0, 1), (74, .iadd, 1), (75, .istore 5, 2), (77, .iinc 7 1, 3), (80, .goto (-71), 3), (83, .iload 5, 2), (85, .ireturn, 1)]
theorem dc289 : dcs (mC 289) il289 := dc_of (by decide +kernel)
def mo_sews_J38  (v0 v1 v2 v4 : Int) (Kb : Int → Int → Int → MM → OR) (K1 : Int → MM → OR) (v5 v6 v7 s0 : Int) (M : MM) : OR :=
  (bif cmpB .eq s0 0 then (bif cmpB .eq s0 0 then (Kb (v5 + 0) 0 (v7 + 1) M) else (bif nz v1 then (bif cmpB .ne ((w32 0).tmod (w32 v1)) 0 then (Kb (v5 + 0) 0 (v7 + 1) M) else (Kb (v5 + 1) 0 (v7 + 1) M)) else none)) else (bif cmpB .eq s0 0 then (Kb (v5 + 0) (v6 + 1) (v7 + 1) M) else (bif nz v1 then (bif cmpB .ne ((w32 (v6 + 1)).tmod (w32 v1)) 0 then (Kb (v5 + 0) (v6 + 1) (v7 + 1) M) else (Kb (v5 + 1) (v6 + 1) (v7 + 1) M)) else none)))
set_option maxRecDepth 4000 in
theorem mo_sews_J38_ok {Z : Nat × (Nat → Int)} {d : Nat} (hd : 0 ≤ d)  {v0 v1 v2 v4 : Int} {Kb : Int → Int → Int → MM → OR} {K1 : Int → MM → OR} {res : AR × MM} (kb : ∀ (x5 x6 x7 : Int) (M : MM) (j8 : AV), Kb x5 x6 x7 M = some res → EX Z d 289 9 [vI v0, vI v1, vJ v2, vU, vI v4, vI x5, vI x6, vI x7, j8] [] M res) (k1 : ∀ (x5 : Int) (M : MM) (j0 j1 j2 j3 j4 j6 j7 j8 : AV), K1 x5 M = some res → EX Z d 289 83 [j0, j1, j2, j3, j4, vI x5, j6, j7, j8] [] M res) : ∀ (v5 v6 v7 s0 : Int) (M : MM) (j8 : AV), mo_sews_J38 v0 v1 v2 v4 Kb K1 v5 v6 v7 s0 M = some res → EX Z d 289 38 [vI v0, vI v1, vJ v2, vU, vI v4, vI v5, vI v6, vI v7, j8] [vI s0] M res := by
  intro v5 v6 v7 s0 M j8 hf
  unfold mo_sews_J38 at hf
  refine ex_pu (ls' := [vI v0, vI v1, vJ v2, vU, vI v4, vI v5, vI v6, vI v7, vI s0]) (st' := []) (dg dc289 23 rfl) rfl rfl ?_
  refine ex_pu (ls' := [vI v0, vI v1, vJ v2, vU, vI v4, vI v5, vI v6, vI v7, vI s0]) (st' := [vI s0]) (dg dc289 24 rfl) rfl rfl ?_
  refine ex_if (t := 52) (dg dc289 25 rfl) rfl hf (fun _ hf => ?_) (fun _ hf => ?_)
  · refine ex_pu (ls' := [vI v0, vI v1, vJ v2, vU, vI v4, vI v5, vI v6, vI v7, vI s0]) (st' := [vI 0]) (dg dc289 30 rfl) rfl rfl ?_
    refine ex_pu (ls' := [vI v0, vI v1, vJ v2, vU, vI v4, vI v5, vI 0, vI v7, vI s0]) (st' := []) (dg dc289 31 rfl) rfl rfl ?_
    refine ex_pu (ls' := [vI v0, vI v1, vJ v2, vU, vI v4, vI v5, vI 0, vI v7, vI s0]) (st' := [vI v5]) (dg dc289 32 rfl) rfl rfl ?_
    refine ex_pu (ls' := [vI v0, vI v1, vJ v2, vU, vI v4, vI v5, vI 0, vI v7, vI s0]) (st' := [vI s0, vI v5]) (dg dc289 33 rfl) rfl rfl ?_
    refine ex_if (t := 73) (dg dc289 34 rfl) rfl hf (fun _ hf => ?_) (fun _ hf => ?_)
    · refine ex_pu (ls' := [vI v0, vI v1, vJ v2, vU, vI v4, vI v5, vI 0, vI v7, vI s0]) (st' := [vI 0, vI v5]) (dg dc289 41 rfl) rfl rfl ?_
      refine ex_pu (ls' := [vI v0, vI v1, vJ v2, vU, vI v4, vI v5, vI 0, vI v7, vI s0]) (st' := [vI (v5 + 0)]) (dg dc289 42 rfl) rfl rfl ?_
      refine ex_pu (ls' := [vI v0, vI v1, vJ v2, vU, vI v4, vI (v5 + 0), vI 0, vI v7, vI s0]) (st' := []) (dg dc289 43 rfl) rfl rfl ?_
      refine ex_pu (ls' := [vI v0, vI v1, vJ v2, vU, vI v4, vI (v5 + 0), vI 0, vI (v7 + 1), vI s0]) (st' := []) (dg dc289 44 rfl) rfl rfl ?_
      refine ex_goto (t := 9) (dg dc289 45 rfl) rfl rfl ?_
      exact kb (v5 + 0) 0 (v7 + 1) M _ hf
    · refine ex_pu (ls' := [vI v0, vI v1, vJ v2, vU, vI v4, vI v5, vI 0, vI v7, vI s0]) (st' := [vI 0, vI v5]) (dg dc289 35 rfl) rfl rfl ?_
      refine ex_pu (ls' := [vI v0, vI v1, vJ v2, vU, vI v4, vI v5, vI 0, vI v7, vI s0]) (st' := [vI v1, vI 0, vI v5]) (dg dc289 36 rfl) rfl rfl ?_
      refine ex_iremG (dg dc289 37 rfl) hf (fun hf => ?_)
      refine ex_if (t := 73) (dg dc289 38 rfl) rfl hf (fun _ hf => ?_) (fun _ hf => ?_)
      · refine ex_pu (ls' := [vI v0, vI v1, vJ v2, vU, vI v4, vI v5, vI 0, vI v7, vI s0]) (st' := [vI 0, vI v5]) (dg dc289 41 rfl) rfl rfl ?_
        refine ex_pu (ls' := [vI v0, vI v1, vJ v2, vU, vI v4, vI v5, vI 0, vI v7, vI s0]) (st' := [vI (v5 + 0)]) (dg dc289 42 rfl) rfl rfl ?_
        refine ex_pu (ls' := [vI v0, vI v1, vJ v2, vU, vI v4, vI (v5 + 0), vI 0, vI v7, vI s0]) (st' := []) (dg dc289 43 rfl) rfl rfl ?_
        refine ex_pu (ls' := [vI v0, vI v1, vJ v2, vU, vI v4, vI (v5 + 0), vI 0, vI (v7 + 1), vI s0]) (st' := []) (dg dc289 44 rfl) rfl rfl ?_
        refine ex_goto (t := 9) (dg dc289 45 rfl) rfl rfl ?_
        exact kb (v5 + 0) 0 (v7 + 1) M _ hf
      · refine ex_pu (ls' := [vI v0, vI v1, vJ v2, vU, vI v4, vI v5, vI 0, vI v7, vI s0]) (st' := [vI 1, vI v5]) (dg dc289 39 rfl) rfl rfl ?_
        refine ex_goto (t := 74) (dg dc289 40 rfl) rfl rfl ?_
        refine ex_pu (ls' := [vI v0, vI v1, vJ v2, vU, vI v4, vI v5, vI 0, vI v7, vI s0]) (st' := [vI (v5 + 1)]) (dg dc289 42 rfl) rfl rfl ?_
        refine ex_pu (ls' := [vI v0, vI v1, vJ v2, vU, vI v4, vI (v5 + 1), vI 0, vI v7, vI s0]) (st' := []) (dg dc289 43 rfl) rfl rfl ?_
        refine ex_pu (ls' := [vI v0, vI v1, vJ v2, vU, vI v4, vI (v5 + 1), vI 0, vI (v7 + 1), vI s0]) (st' := []) (dg dc289 44 rfl) rfl rfl ?_
        refine ex_goto (t := 9) (dg dc289 45 rfl) rfl rfl ?_
        exact kb (v5 + 1) 0 (v7 + 1) M _ hf
  · refine ex_pu (ls' := [vI v0, vI v1, vJ v2, vU, vI v4, vI v5, vI v6, vI v7, vI s0]) (st' := [vI v6]) (dg dc289 26 rfl) rfl rfl ?_
    refine ex_pu (ls' := [vI v0, vI v1, vJ v2, vU, vI v4, vI v5, vI v6, vI v7, vI s0]) (st' := [vI 1, vI v6]) (dg dc289 27 rfl) rfl rfl ?_
    refine ex_pu (ls' := [vI v0, vI v1, vJ v2, vU, vI v4, vI v5, vI v6, vI v7, vI s0]) (st' := [vI (v6 + 1)]) (dg dc289 28 rfl) rfl rfl ?_
    refine ex_goto (t := 53) (dg dc289 29 rfl) rfl rfl ?_
    refine ex_pu (ls' := [vI v0, vI v1, vJ v2, vU, vI v4, vI v5, vI (v6 + 1), vI v7, vI s0]) (st' := []) (dg dc289 31 rfl) rfl rfl ?_
    refine ex_pu (ls' := [vI v0, vI v1, vJ v2, vU, vI v4, vI v5, vI (v6 + 1), vI v7, vI s0]) (st' := [vI v5]) (dg dc289 32 rfl) rfl rfl ?_
    refine ex_pu (ls' := [vI v0, vI v1, vJ v2, vU, vI v4, vI v5, vI (v6 + 1), vI v7, vI s0]) (st' := [vI s0, vI v5]) (dg dc289 33 rfl) rfl rfl ?_
    refine ex_if (t := 73) (dg dc289 34 rfl) rfl hf (fun _ hf => ?_) (fun _ hf => ?_)
    · refine ex_pu (ls' := [vI v0, vI v1, vJ v2, vU, vI v4, vI v5, vI (v6 + 1), vI v7, vI s0]) (st' := [vI 0, vI v5]) (dg dc289 41 rfl) rfl rfl ?_
      refine ex_pu (ls' := [vI v0, vI v1, vJ v2, vU, vI v4, vI v5, vI (v6 + 1), vI v7, vI s0]) (st' := [vI (v5 + 0)]) (dg dc289 42 rfl) rfl rfl ?_
      refine ex_pu (ls' := [vI v0, vI v1, vJ v2, vU, vI v4, vI (v5 + 0), vI (v6 + 1), vI v7, vI s0]) (st' := []) (dg dc289 43 rfl) rfl rfl ?_
      refine ex_pu (ls' := [vI v0, vI v1, vJ v2, vU, vI v4, vI (v5 + 0), vI (v6 + 1), vI (v7 + 1), vI s0]) (st' := []) (dg dc289 44 rfl) rfl rfl ?_
      refine ex_goto (t := 9) (dg dc289 45 rfl) rfl rfl ?_
      exact kb (v5 + 0) (v6 + 1) (v7 + 1) M _ hf
    · refine ex_pu (ls' := [vI v0, vI v1, vJ v2, vU, vI v4, vI v5, vI (v6 + 1), vI v7, vI s0]) (st' := [vI (v6 + 1), vI v5]) (dg dc289 35 rfl) rfl rfl ?_
      refine ex_pu (ls' := [vI v0, vI v1, vJ v2, vU, vI v4, vI v5, vI (v6 + 1), vI v7, vI s0]) (st' := [vI v1, vI (v6 + 1), vI v5]) (dg dc289 36 rfl) rfl rfl ?_
      refine ex_iremG (dg dc289 37 rfl) hf (fun hf => ?_)
      refine ex_if (t := 73) (dg dc289 38 rfl) rfl hf (fun _ hf => ?_) (fun _ hf => ?_)
      · refine ex_pu (ls' := [vI v0, vI v1, vJ v2, vU, vI v4, vI v5, vI (v6 + 1), vI v7, vI s0]) (st' := [vI 0, vI v5]) (dg dc289 41 rfl) rfl rfl ?_
        refine ex_pu (ls' := [vI v0, vI v1, vJ v2, vU, vI v4, vI v5, vI (v6 + 1), vI v7, vI s0]) (st' := [vI (v5 + 0)]) (dg dc289 42 rfl) rfl rfl ?_
        refine ex_pu (ls' := [vI v0, vI v1, vJ v2, vU, vI v4, vI (v5 + 0), vI (v6 + 1), vI v7, vI s0]) (st' := []) (dg dc289 43 rfl) rfl rfl ?_
        refine ex_pu (ls' := [vI v0, vI v1, vJ v2, vU, vI v4, vI (v5 + 0), vI (v6 + 1), vI (v7 + 1), vI s0]) (st' := []) (dg dc289 44 rfl) rfl rfl ?_
        refine ex_goto (t := 9) (dg dc289 45 rfl) rfl rfl ?_
        exact kb (v5 + 0) (v6 + 1) (v7 + 1) M _ hf
      · refine ex_pu (ls' := [vI v0, vI v1, vJ v2, vU, vI v4, vI v5, vI (v6 + 1), vI v7, vI s0]) (st' := [vI 1, vI v5]) (dg dc289 39 rfl) rfl rfl ?_
        refine ex_goto (t := 74) (dg dc289 40 rfl) rfl rfl ?_
        refine ex_pu (ls' := [vI v0, vI v1, vJ v2, vU, vI v4, vI v5, vI (v6 + 1), vI v7, vI s0]) (st' := [vI (v5 + 1)]) (dg dc289 42 rfl) rfl rfl ?_
        refine ex_pu (ls' := [vI v0, vI v1, vJ v2, vU, vI v4, vI (v5 + 1), vI (v6 + 1), vI v7, vI s0]) (st' := []) (dg dc289 43 rfl) rfl rfl ?_
        refine ex_pu (ls' := [vI v0, vI v1, vJ v2, vU, vI v4, vI (v5 + 1), vI (v6 + 1), vI (v7 + 1), vI s0]) (st' := []) (dg dc289 44 rfl) rfl rfl ?_
        refine ex_goto (t := 9) (dg dc289 45 rfl) rfl rfl ?_
        exact kb (v5 + 1) (v6 + 1) (v7 + 1) M _ hf
def mo_sews_J33  (v0 v1 v2 v4 : Int) (Kb : Int → Int → Int → MM → OR) (K1 : Int → MM → OR) (v5 v6 v7 : Int) (M : MM) : OR :=
  (mo_sews_J38 v0 v1 v2 v4 Kb K1 v5 v6 v7 1 M)
set_option maxRecDepth 4000 in
theorem mo_sews_J33_ok {Z : Nat × (Nat → Int)} {d : Nat} (hd : 0 ≤ d)  {v0 v1 v2 v4 : Int} {Kb : Int → Int → Int → MM → OR} {K1 : Int → MM → OR} {res : AR × MM} (kb : ∀ (x5 x6 x7 : Int) (M : MM) (j8 : AV), Kb x5 x6 x7 M = some res → EX Z d 289 9 [vI v0, vI v1, vJ v2, vU, vI v4, vI x5, vI x6, vI x7, j8] [] M res) (k1 : ∀ (x5 : Int) (M : MM) (j0 j1 j2 j3 j4 j6 j7 j8 : AV), K1 x5 M = some res → EX Z d 289 83 [j0, j1, j2, j3, j4, vI x5, j6, j7, j8] [] M res) : ∀ (v5 v6 v7 : Int) (M : MM) (j8 : AV), mo_sews_J33 v0 v1 v2 v4 Kb K1 v5 v6 v7 M = some res → EX Z d 289 33 [vI v0, vI v1, vJ v2, vU, vI v4, vI v5, vI v6, vI v7, j8] [] M res := by
  intro v5 v6 v7 M j8 hf
  unfold mo_sews_J33 at hf
  refine ex_pu (ls' := [vI v0, vI v1, vJ v2, vU, vI v4, vI v5, vI v6, vI v7, j8]) (st' := [vI 1]) (dg dc289 20 rfl) rfl rfl ?_
  refine ex_goto (t := 38) (dg dc289 21 rfl) rfl rfl ?_
  exact mo_sews_J38_ok hd  kb k1 v5 v6 v7 1 M _ hf
def mo_sews_L9  (v0 v1 v2 v4 : Int) (K1 : Int → MM → OR) : Nat → Int → Int → Int → MM → OR
  | 0, _, _, _, _ => none
  | n + 1, v5, v6, v7, M => (bif cmpB .ge v7 v0 then (K1 v5 M) else (bif cmpB .eq v7 v4 then (mo_sews_J33 v0 v1 v2 v4 (mo_sews_L9 v0 v1 v2 v4 K1 n) K1 v5 v6 v7 M) else (bif cmpB .ne (lCmp (lAnd (lShr v2 v7) 1) 0) 0 then (mo_sews_J38 v0 v1 v2 v4 (mo_sews_L9 v0 v1 v2 v4 K1 n) K1 v5 v6 v7 0 M) else (mo_sews_J33 v0 v1 v2 v4 (mo_sews_L9 v0 v1 v2 v4 K1 n) K1 v5 v6 v7 M))))
set_option maxRecDepth 4000 in
theorem mo_sews_L9_ok {Z : Nat × (Nat → Int)} {d : Nat} (hd : 0 ≤ d)  {v0 v1 v2 v4 : Int} {K1 : Int → MM → OR} {res : AR × MM} (k1 : ∀ (x5 : Int) (M : MM) (j0 j1 j2 j3 j4 j6 j7 j8 : AV), K1 x5 M = some res → EX Z d 289 83 [j0, j1, j2, j3, j4, vI x5, j6, j7, j8] [] M res) : ∀ (n : Nat) (v5 v6 v7 : Int) (M : MM) (j8 : AV), mo_sews_L9 v0 v1 v2 v4 K1 n v5 v6 v7 M = some res → EX Z d 289 9 [vI v0, vI v1, vJ v2, vU, vI v4, vI v5, vI v6, vI v7, j8] [] M res := by
  intro n
  induction n with
  | zero =>
    intro v5 v6 v7 M j8 hf
    unfold mo_sews_L9 at hf
    cases hf
  | succ n ih =>
    intro v5 v6 v7 M j8 hf
    unfold mo_sews_L9 at hf
    refine ex_pu (ls' := [vI v0, vI v1, vJ v2, vU, vI v4, vI v5, vI v6, vI v7, j8]) (st' := [vI v7]) (dg dc289 6 rfl) rfl rfl ?_
    refine ex_pu (ls' := [vI v0, vI v1, vJ v2, vU, vI v4, vI v5, vI v6, vI v7, j8]) (st' := [vI v0, vI v7]) (dg dc289 7 rfl) rfl rfl ?_
    refine ex_icmp (t := 83) (dg dc289 8 rfl) rfl hf (fun _ hf => ?_) (fun _ hf => ?_)
    · exact k1 v5 M _ _ _ _ _ _ _ _ hf
    · refine ex_pu (ls' := [vI v0, vI v1, vJ v2, vU, vI v4, vI v5, vI v6, vI v7, j8]) (st' := [vI v7]) (dg dc289 9 rfl) rfl rfl ?_
      refine ex_pu (ls' := [vI v0, vI v1, vJ v2, vU, vI v4, vI v5, vI v6, vI v7, j8]) (st' := [vI v4, vI v7]) (dg dc289 10 rfl) rfl rfl ?_
      refine ex_icmp (t := 33) (dg dc289 11 rfl) rfl hf (fun _ hf => ?_) (fun _ hf => ?_)
      · exact mo_sews_J33_ok hd  ih k1 v5 v6 v7 M _ hf
      · refine ex_pu (ls' := [vI v0, vI v1, vJ v2, vU, vI v4, vI v5, vI v6, vI v7, j8]) (st' := [vJ v2]) (dg dc289 12 rfl) rfl rfl ?_
        refine ex_pu (ls' := [vI v0, vI v1, vJ v2, vU, vI v4, vI v5, vI v6, vI v7, j8]) (st' := [vI v7, vJ v2]) (dg dc289 13 rfl) rfl rfl ?_
        refine ex_pu (ls' := [vI v0, vI v1, vJ v2, vU, vI v4, vI v5, vI v6, vI v7, j8]) (st' := [vJ (lShr v2 v7)]) (dg dc289 14 rfl) rfl rfl ?_
        refine ex_pu (ls' := [vI v0, vI v1, vJ v2, vU, vI v4, vI v5, vI v6, vI v7, j8]) (st' := [vJ 1, vJ (lShr v2 v7)]) (dg dc289 15 rfl) rfl rfl ?_
        refine ex_pu (ls' := [vI v0, vI v1, vJ v2, vU, vI v4, vI v5, vI v6, vI v7, j8]) (st' := [vJ (lAnd (lShr v2 v7) 1)]) (dg dc289 16 rfl) rfl rfl ?_
        refine ex_pu (ls' := [vI v0, vI v1, vJ v2, vU, vI v4, vI v5, vI v6, vI v7, j8]) (st' := [vJ 0, vJ (lAnd (lShr v2 v7) 1)]) (dg dc289 17 rfl) rfl rfl ?_
        refine ex_pu (ls' := [vI v0, vI v1, vJ v2, vU, vI v4, vI v5, vI v6, vI v7, j8]) (st' := [vI (lCmp (lAnd (lShr v2 v7) 1) 0)]) (dg dc289 18 rfl) rfl rfl ?_
        refine ex_if (t := 37) (dg dc289 19 rfl) rfl hf (fun _ hf => ?_) (fun _ hf => ?_)
        · refine ex_pu (ls' := [vI v0, vI v1, vJ v2, vU, vI v4, vI v5, vI v6, vI v7, j8]) (st' := [vI 0]) (dg dc289 22 rfl) rfl rfl ?_
          exact mo_sews_J38_ok hd  ih k1 v5 v6 v7 0 M _ hf
        · exact mo_sews_J33_ok hd  ih k1 v5 v6 v7 M _ hf
def mo_sews (v0 : Int) (v1 : Int) (v2 : Int) (v4 : Int) (M : MM) : OR :=
  (mo_sews_L9 v0 v1 v2 v4 (fun v5_1 M_2 => some (rI v5_1, M_2)) FU 0 0 0 M)
set_option maxRecDepth 4000 in
theorem mo_sews_ok {Z : Nat × (Nat → Int)} {d : Nat} (hd : 0 ≤ d) {M : MM}  {v0 v1 v2 v4 : Int} {res : AR × MM} (hf : mo_sews v0 v1 v2 v4 M = some res) : EX Z d 289 0 (ent 289 [vI v0, vI v1, vJ v2, vI v4]) [] M res := by
  unfold mo_sews at hf
  show EX Z _ 289 0 [vI v0, vI v1, vJ v2, vU, vI v4, vU, vU, vU, vU] [] M res
  refine ex_pu (ls' := [vI v0, vI v1, vJ v2, vU, vI v4, vU, vU, vU, vU]) (st' := [vI 0]) (dg dc289 0 rfl) rfl rfl ?_
  refine ex_pu (ls' := [vI v0, vI v1, vJ v2, vU, vI v4, vI 0, vU, vU, vU]) (st' := []) (dg dc289 1 rfl) rfl rfl ?_
  refine ex_pu (ls' := [vI v0, vI v1, vJ v2, vU, vI v4, vI 0, vU, vU, vU]) (st' := [vI 0]) (dg dc289 2 rfl) rfl rfl ?_
  refine ex_pu (ls' := [vI v0, vI v1, vJ v2, vU, vI v4, vI 0, vI 0, vU, vU]) (st' := []) (dg dc289 3 rfl) rfl rfl ?_
  refine ex_pu (ls' := [vI v0, vI v1, vJ v2, vU, vI v4, vI 0, vI 0, vU, vU]) (st' := [vI 0]) (dg dc289 4 rfl) rfl rfl ?_
  refine ex_pu (ls' := [vI v0, vI v1, vJ v2, vU, vI v4, vI 0, vI 0, vI 0, vU]) (st' := []) (dg dc289 5 rfl) rfl rfl ?_
  refine mo_sews_L9_ok hd  ?_ FU 0 0 0 M _ hf
  · intro v5_1 M_2 j0_3 j1_4 j2_5 j3_6 j4_7 j6_8 j7_9 j8_10 hf
    refine ex_pu (ls' := [j0_3, j1_4, j2_5, j3_6, j4_7, vI v5_1, j6_8, j7_9, j8_10]) (st' := [vI v5_1]) (dg dc289 46 rfl) rfl rfl ?_
    exact ex_ire (dg dc289 47 rfl) rfl hf
