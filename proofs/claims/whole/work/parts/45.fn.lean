/-! ===== METHODS 5 ===== -/
-- GlassHill$Tape.tookMark
def il94 : List (Nat × Instr × Nat) := [(0, .aload_n 0, 1), (1, .invokevirtual 35, 3), (4, .aload_n 0, 1), (5, .getfield 19, 3), (8, .iconst (-1), 1), (9, .if_icmp .ne 27, 3), (12, .aload_n 0, 1), (13, .getfield 25, 3), (16, .aload_n 0, 1), (17, .getfield 15, 3), (20, .if_icmp .ge 16, 3), (23, .aload_n 0, 1), (24, .getfield 11, 3), (27, .aload_n 0, 1), (28, .getfield 25, 3), (31, .iaload, 1), (32, .iload_n 1, 1), (33, .if_icmp .eq 5, 3), (36, .iconst 0, 1), (37, .ireturn, 1), (38, .aload_n 0, 1), (39, .aload_n 0, 1), (40, .getfield 25, 3), (43, .putfield 22, 3), (46, .aload_n 0, 1), (47, .dup, 1), (48, .getfield 25, 3), (51, .iconst 1, 1), (52, .iadd, 1), (53, .putfield 25, 3), (56, .iconst 1, 1), (57, .ireturn, 1)]
theorem dc94 : dcs (mC 94) il94 := dc_of (by decide +kernel)
def tape_tookMark (v1 : Int) (M : MM) : OR :=
  (bV (tape_skipBlanks  M) fun M_2 => (bif cmpB .ne (M_2 1 2) (-1) then some (rI 0, M_2) else (bif cmpB .ge (M_2 1 4) (M_2 1 1) then some (rI 0, M_2) else (bif inB (M_2 1 4) 400 then (bif cmpB .eq (M_2 2 ((M_2 1 4)).toNat) v1 then (sM (mU M_2 1 3 (M_2 1 4)) fun M_4 => (sM (mU M_4 1 4 ((M_4 1 4) + 1)) fun M_6 => some (rI 1, M_6))) else some (rI 0, M_2)) else none))))
set_option maxRecDepth 4000 in
theorem tape_tookMark_ok {Z : Nat × (Nat → Int)} {d : Nat} (hd : 1 ≤ d) {M : MM}  {v1 : Int} {res : AR × MM} (hf : tape_tookMark v1 M = some res) : EX Z d 94 0 (ent 94 [vR 1, vI v1]) [] M res := by
  obtain ⟨e9, rfl⟩ : ∃ e9, d = e9 + 1 := ⟨d - 1, by omega⟩
  unfold tape_tookMark at hf
  show EX Z _ 94 0 [vR 1, vI v1] [] M res
  refine ex_pu (ls' := [vR 1, vI v1]) (st' := [vR 1]) (dg dc94 0 rfl) rfl rfl ?_
  refine ex_cV (vs := [vR 1]) (st' := []) (F := (tape_skipBlanks  M)) (Or.inr (Or.inl ⟨rfl, (dg dc94 1 rfl)⟩)) rfl rfl (rk1 (LOC.st (Nat.le_of_ble_eq_true rfl) rfl) rfl) rfl (fun _ r9 => tape_skipBlanks_ok (Z := Z) (d := e9) (by omega)  r9) hf (fun M_2 he_1 hf => ?_)
  refine ex_pu (ls' := [vR 1, vI v1]) (st' := [vR 1]) (dg dc94 2 rfl) rfl rfl ?_
  refine ex_getI (dg dc94 3 rfl) rfl (LOC.st (Nat.le_of_ble_eq_true rfl) rfl) rfl ?_
  refine ex_pu (ls' := [vR 1, vI v1]) (st' := [vI (-1), vI (M_2 1 2)]) (dg dc94 4 rfl) rfl rfl ?_
  refine ex_icmp (t := 36) (dg dc94 5 rfl) rfl hf (fun _ hf => ?_) (fun _ hf => ?_)
  · refine ex_pu (ls' := [vR 1, vI v1]) (st' := [vI 0]) (dg dc94 18 rfl) rfl rfl ?_
    exact ex_ire (dg dc94 19 rfl) rfl hf
  · refine ex_pu (ls' := [vR 1, vI v1]) (st' := [vR 1]) (dg dc94 6 rfl) rfl rfl ?_
    refine ex_getI (dg dc94 7 rfl) rfl (LOC.st (Nat.le_of_ble_eq_true rfl) rfl) rfl ?_
    refine ex_pu (ls' := [vR 1, vI v1]) (st' := [vR 1, vI (M_2 1 4)]) (dg dc94 8 rfl) rfl rfl ?_
    refine ex_getI (dg dc94 9 rfl) rfl (LOC.st (Nat.le_of_ble_eq_true rfl) rfl) rfl ?_
    refine ex_icmp (t := 36) (dg dc94 10 rfl) rfl hf (fun _ hf => ?_) (fun _ hf => ?_)
    · refine ex_pu (ls' := [vR 1, vI v1]) (st' := [vI 0]) (dg dc94 18 rfl) rfl rfl ?_
      exact ex_ire (dg dc94 19 rfl) rfl hf
    · refine ex_pu (ls' := [vR 1, vI v1]) (st' := [vR 1]) (dg dc94 11 rfl) rfl rfl ?_
      refine ex_getO (dg dc94 12 rfl) rfl (LOC.st (Nat.le_of_ble_eq_true rfl) rfl) rfl ?_
      show EX Z _ 94 _ [vR 1, vI v1] [vR 2] _ _
      refine ex_pu (ls' := [vR 1, vI v1]) (st' := [vR 1, vR 2]) (dg dc94 13 rfl) rfl rfl ?_
      refine ex_getI (dg dc94 14 rfl) rfl (LOC.st (Nat.le_of_ble_eq_true rfl) rfl) rfl ?_
      refine ex_iald (dg dc94 15 rfl) (LOC.st (Nat.le_of_ble_eq_true rfl) rfl) rfl hf (fun _ hf => ?_)
      refine ex_pu (ls' := [vR 1, vI v1]) (st' := [vI v1, vI (M_2 2 ((M_2 1 4)).toNat)]) (dg dc94 16 rfl) rfl rfl ?_
      refine ex_icmp (t := 38) (dg dc94 17 rfl) rfl hf (fun _ hf => ?_) (fun _ hf => ?_)
      · refine ex_pu (ls' := [vR 1, vI v1]) (st' := [vR 1]) (dg dc94 20 rfl) rfl rfl ?_
        refine ex_pu (ls' := [vR 1, vI v1]) (st' := [vR 1, vR 1]) (dg dc94 21 rfl) rfl rfl ?_
        refine ex_getI (dg dc94 22 rfl) rfl (LOC.st (Nat.le_of_ble_eq_true rfl) rfl) rfl ?_
        refine ex_putI (dg dc94 23 rfl) rfl (LOC.st (Nat.le_of_ble_eq_true rfl) rfl) rfl rfl rfl ?_
        refine ex_gen hf (fun M_4 hM_5 hf => ?_)
        refine ex_pu (ls' := [vR 1, vI v1]) (st' := [vR 1]) (dg dc94 24 rfl) rfl rfl ?_
        refine ex_pu (ls' := [vR 1, vI v1]) (st' := [vR 1, vR 1]) (dg dc94 25 rfl) rfl rfl ?_
        refine ex_getI (dg dc94 26 rfl) rfl (LOC.st (Nat.le_of_ble_eq_true rfl) rfl) rfl ?_
        refine ex_pu (ls' := [vR 1, vI v1]) (st' := [vI 1, vI (M_4 1 4), vR 1]) (dg dc94 27 rfl) rfl rfl ?_
        refine ex_pu (ls' := [vR 1, vI v1]) (st' := [vI ((M_4 1 4) + 1), vR 1]) (dg dc94 28 rfl) rfl rfl ?_
        refine ex_putI (dg dc94 29 rfl) rfl (LOC.st (Nat.le_of_ble_eq_true rfl) rfl) rfl rfl rfl ?_
        refine ex_gen hf (fun M_6 hM_7 hf => ?_)
        refine ex_pu (ls' := [vR 1, vI v1]) (st' := [vI 1]) (dg dc94 30 rfl) rfl rfl ?_
        exact ex_ire (dg dc94 31 rfl) rfl hf
      · refine ex_pu (ls' := [vR 1, vI v1]) (st' := [vI 0]) (dg dc94 18 rfl) rfl rfl ?_
        exact ex_ire (dg dc94 19 rfl) rfl hf
-- GlassHill$Tape.needWord
def il95 : List (Nat × Instr × Nat) := [(0, .aload_n 0, 1), (1, .aload_n 1, 1), (2, .invokevirtual 56, 3), (5, .ifCond .ne 7, 3), (8, .aload_n 0, 1), (9, .invokevirtual 32, 3), (12, .return_, 1)]
theorem dc95 : dcs (mC 95) il95 := dc_of (by decide +kernel)
def tape_needWord (t1 : Nat) (M : MM) : OR :=
  (bI (tape_tookWord t1 M) fun z_3 M_2 => (bif cmpB .ne z_3 0 then some (rV, M_2) else (bV (tape_fail  M_2) fun M_5 => some (rV, M_5))))
set_option maxRecDepth 4000 in
theorem tape_needWord_ok {Z : Nat × (Nat → Int)} {d : Nat} (hd : 5 ≤ d) {M : MM} {t1 : Nat} (ht1 : t1 < 79) {res : AR × MM} (hf : tape_needWord t1 M = some res) : EX Z d 95 0 (ent 95 [vR 1, vR (E0 + 2 + 2 * t1)]) [] M res := by
  obtain ⟨e9, rfl⟩ : ∃ e9, d = e9 + 1 := ⟨d - 1, by omega⟩
  unfold tape_needWord at hf
  show EX Z _ 95 0 [vR 1, vR (E0 + 2 + 2 * t1)] [] M res
  refine ex_pu (ls' := [vR 1, vR (E0 + 2 + 2 * t1)]) (st' := [vR 1]) (dg dc95 0 rfl) rfl rfl ?_
  refine ex_pu (ls' := [vR 1, vR (E0 + 2 + 2 * t1)]) (st' := [vR (E0 + 2 + 2 * t1), vR 1]) (dg dc95 1 rfl) rfl rfl ?_
  refine ex_cI (vs := [vR 1, vR (E0 + 2 + 2 * t1)]) (st' := []) (F := (tape_tookWord t1 M)) (Or.inr (Or.inl ⟨rfl, (dg dc95 2 rfl)⟩)) rfl rfl (rk1 (LOC.st (Nat.le_of_ble_eq_true rfl) rfl) rfl) rfl (fun _ r9 => tape_tookWord_ok (Z := Z) (d := e9) (by omega) ht1  r9) hf (fun z_3 M_2 he_1 hf => ?_)
  refine ex_if (t := 12) (dg dc95 3 rfl) rfl hf (fun _ hf => ?_) (fun _ hf => ?_)
  · exact ex_vre (dg dc95 6 rfl) rfl hf
  · refine ex_pu (ls' := [vR 1, vR (E0 + 2 + 2 * t1)]) (st' := [vR 1]) (dg dc95 4 rfl) rfl rfl ?_
    refine ex_cV (vs := [vR 1]) (st' := []) (F := (tape_fail  M_2)) (Or.inr (Or.inl ⟨rfl, (dg dc95 5 rfl)⟩)) rfl rfl (rk1 (LOC.st (Nat.le_of_ble_eq_true rfl) rfl) rfl) rfl (fun _ r9 => tape_fail_ok (Z := Z) (d := e9) (by omega)  r9) hf (fun M_5 he_4 hf => ?_)
    exact ex_vre (dg dc95 6 rfl) rfl hf
-- GlassHill$Tape.needNumber
def il96 : List (Nat × Instr × Nat) := [(0, .aload_n 0, 1), (1, .invokevirtual 35, 3), (4, .iconst 0, 1), (5, .istore_n 3, 1), (6, .iconst 0, 1), (7, .istore 4, 2), (9, .aload_n 0, 1), (10, .getfield 25, 3), (13, .iload_n 3, 1), (14, .iadd, 1), (15, .aload_n 0, 1), (16, .getfield 15, 3), (19, .if_icmp .ge 57, 3), (22, .aload_n 0, 1), (23, .getfield 11, 3), (26, .aload_n 0, 1), (27, .getfield 25, 3), (30, .iload_n 3, 1), (31, .iadd, 1), (32, .iaload, 1), (33, .bipush 48, 2), (35, .bipush 57, 2), (37, .invokestatic 42, 3), (40, .ifCond .eq 36, 3), (43, .iload_n 3, 1), (44, .iconst 3, 1), (45, .if_icmp .ge 25, 3), (48, .bipush 10, 2), (50, .iload 4, 2), (52, .imul, 1), (53, .aload_n 0, 1), (54, .getfield 11, 3), (57, .aload_n 0, 1), (58, .getfield 25, 3), (61, .iload_n 3, 1), (62, .iadd, 1), (63, .iaload, 1), (64, .iadd, 1), (65, .bipush 48, 2), (67, .isub, 1), (68, .istore 4, 2), (70, .iinc 3 1, 3), (73, .goto (-64), 3), (76, .aload_n 0, 1), (77, .getfield 19, 3), (80, .iconst (-1), 1), (81, .if_icmp .ne 24, 3), (84, .iload_n 3, 1), (85, .ifCond .eq 20, 3), (88, .iload_n 3, 1), (89, .iconst 3, 1), (90, .if_icmp .gt 15, 3), (93, .iload 4, 2), (95, .iload_n 1, 1), (96, .if_icmp .lt 9, 3), (99, .iload 4, 2), (101, .iload_n 2, 1), (102, .if_icmp .le 13, 3), (105, .aload_n 0, 1), (106, .aload_n 0, 1), (107, .getfield 25, 3), (110, .invokevirtual 38, 3), (113, .iload_n 1, 1), (114, .ireturn, 1), (115, .aload_n 0, 1), (116, .aload_n 0, 1), (117, .getfield 25, 3), (120, .putfield 22, 3), (123, .aload_n 0, 1), (124, .dup, 1), (125, .getfield 25, 3), (128, .iload_n 3, 1), (129, .iadd, 1), (130, .putfield 25, 3), (133, .iload 4, 2), (135, .ireturn, 1)]
theorem dc96 : dcs (mC 96) il96 := dc_of (by decide +kernel)
def tape_needNumber_L9  (v1 v2 : Int) (K1 : Int → Int → MM → OR) : Nat → Int → Int → MM → OR
  | 0, _, _, _ => none
  | n + 1, v3, v4, M => (bif cmpB .ge ((M 1 4) + v3) (M 1 1) then (K1 v3 v4 M) else (bif inB ((M 1 4) + v3) 400 then (bI (tape_isWithin (M 2 (((M 1 4) + v3)).toNat) 48 57 M) fun z_6 M_5 => (bif cmpB .eq z_6 0 then (K1 v3 v4 M_5) else (bif cmpB .ge v3 3 then (tape_needNumber_L9 v1 v2 K1 n (v3 + 1) v4 M_5) else (bif inB ((M_5 1 4) + v3) 400 then (tape_needNumber_L9 v1 v2 K1 n (v3 + 1) (((10 * v4) + (M_5 2 (((M_5 1 4) + v3)).toNat)) - 48) M_5) else none)))) else none))
set_option maxRecDepth 4000 in
theorem tape_needNumber_L9_ok {Z : Nat × (Nat → Int)} {d : Nat} (hd : 1 ≤ d)  {v1 v2 : Int} {K1 : Int → Int → MM → OR} {res : AR × MM} (k1 : ∀ (x3 x4 : Int) (M : MM), K1 x3 x4 M = some res → EX Z d 96 76 [vR 1, vI v1, vI v2, vI x3, vI x4] [] M res) : ∀ (n : Nat) (v3 v4 : Int) (M : MM), tape_needNumber_L9 v1 v2 K1 n v3 v4 M = some res → EX Z d 96 9 [vR 1, vI v1, vI v2, vI v3, vI v4] [] M res := by
  obtain ⟨e9, rfl⟩ : ∃ e9, d = e9 + 1 := ⟨d - 1, by omega⟩
  intro n
  induction n with
  | zero =>
    intro v3 v4 M hf
    unfold tape_needNumber_L9 at hf
    cases hf
  | succ n ih =>
    intro v3 v4 M hf
    unfold tape_needNumber_L9 at hf
    refine ex_pu (ls' := [vR 1, vI v1, vI v2, vI v3, vI v4]) (st' := [vR 1]) (dg dc96 6 rfl) rfl rfl ?_
    refine ex_getI (dg dc96 7 rfl) rfl (LOC.st (Nat.le_of_ble_eq_true rfl) rfl) rfl ?_
    refine ex_pu (ls' := [vR 1, vI v1, vI v2, vI v3, vI v4]) (st' := [vI v3, vI (M 1 4)]) (dg dc96 8 rfl) rfl rfl ?_
    refine ex_pu (ls' := [vR 1, vI v1, vI v2, vI v3, vI v4]) (st' := [vI ((M 1 4) + v3)]) (dg dc96 9 rfl) rfl rfl ?_
    refine ex_pu (ls' := [vR 1, vI v1, vI v2, vI v3, vI v4]) (st' := [vR 1, vI ((M 1 4) + v3)]) (dg dc96 10 rfl) rfl rfl ?_
    refine ex_getI (dg dc96 11 rfl) rfl (LOC.st (Nat.le_of_ble_eq_true rfl) rfl) rfl ?_
    refine ex_icmp (t := 76) (dg dc96 12 rfl) rfl hf (fun _ hf => ?_) (fun _ hf => ?_)
    · exact k1 v3 v4 M hf
    · refine ex_pu (ls' := [vR 1, vI v1, vI v2, vI v3, vI v4]) (st' := [vR 1]) (dg dc96 13 rfl) rfl rfl ?_
      refine ex_getO (dg dc96 14 rfl) rfl (LOC.st (Nat.le_of_ble_eq_true rfl) rfl) rfl ?_
      show EX Z _ 96 _ [vR 1, vI v1, vI v2, vI v3, vI v4] [vR 2] _ _
      refine ex_pu (ls' := [vR 1, vI v1, vI v2, vI v3, vI v4]) (st' := [vR 1, vR 2]) (dg dc96 15 rfl) rfl rfl ?_
      refine ex_getI (dg dc96 16 rfl) rfl (LOC.st (Nat.le_of_ble_eq_true rfl) rfl) rfl ?_
      refine ex_pu (ls' := [vR 1, vI v1, vI v2, vI v3, vI v4]) (st' := [vI v3, vI (M 1 4), vR 2]) (dg dc96 17 rfl) rfl rfl ?_
      refine ex_pu (ls' := [vR 1, vI v1, vI v2, vI v3, vI v4]) (st' := [vI ((M 1 4) + v3), vR 2]) (dg dc96 18 rfl) rfl rfl ?_
      refine ex_iald (dg dc96 19 rfl) (LOC.st (Nat.le_of_ble_eq_true rfl) rfl) rfl hf (fun _ hf => ?_)
      refine ex_pu (ls' := [vR 1, vI v1, vI v2, vI v3, vI v4]) (st' := [vI 48, vI (M 2 (((M 1 4) + v3)).toNat)]) (dg dc96 20 rfl) rfl rfl ?_
      refine ex_pu (ls' := [vR 1, vI v1, vI v2, vI v3, vI v4]) (st' := [vI 57, vI 48, vI (M 2 (((M 1 4) + v3)).toNat)]) (dg dc96 21 rfl) rfl rfl ?_
      refine ex_cI (vs := [vI (M 2 (((M 1 4) + v3)).toNat), vI 48, vI 57]) (st' := []) (F := (tape_isWithin (M 2 (((M 1 4) + v3)).toNat) 48 57 M)) (Or.inl ⟨rfl, (dg dc96 22 rfl)⟩) rfl rfl (Or.inl rfl) rfl (fun _ r9 => tape_isWithin_ok (Z := Z) (d := e9) (by omega)  r9) hf (fun z_6 M_5 he_4 hf => ?_)
      refine ex_if (t := 76) (dg dc96 23 rfl) rfl hf (fun _ hf => ?_) (fun _ hf => ?_)
      · exact k1 v3 v4 M_5 hf
      · refine ex_pu (ls' := [vR 1, vI v1, vI v2, vI v3, vI v4]) (st' := [vI v3]) (dg dc96 24 rfl) rfl rfl ?_
        refine ex_pu (ls' := [vR 1, vI v1, vI v2, vI v3, vI v4]) (st' := [vI 3, vI v3]) (dg dc96 25 rfl) rfl rfl ?_
        refine ex_icmp (t := 70) (dg dc96 26 rfl) rfl hf (fun _ hf => ?_) (fun _ hf => ?_)
        · refine ex_pu (ls' := [vR 1, vI v1, vI v2, vI (v3 + 1), vI v4]) (st' := []) (dg dc96 41 rfl) rfl rfl ?_
          refine ex_goto (t := 9) (dg dc96 42 rfl) rfl rfl ?_
          exact ih (v3 + 1) v4 M_5 hf
        · refine ex_pu (ls' := [vR 1, vI v1, vI v2, vI v3, vI v4]) (st' := [vI 10]) (dg dc96 27 rfl) rfl rfl ?_
          refine ex_pu (ls' := [vR 1, vI v1, vI v2, vI v3, vI v4]) (st' := [vI v4, vI 10]) (dg dc96 28 rfl) rfl rfl ?_
          refine ex_pu (ls' := [vR 1, vI v1, vI v2, vI v3, vI v4]) (st' := [vI (10 * v4)]) (dg dc96 29 rfl) rfl rfl ?_
          refine ex_pu (ls' := [vR 1, vI v1, vI v2, vI v3, vI v4]) (st' := [vR 1, vI (10 * v4)]) (dg dc96 30 rfl) rfl rfl ?_
          refine ex_getO (dg dc96 31 rfl) rfl (LOC.st (Nat.le_of_ble_eq_true rfl) rfl) rfl ?_
          show EX Z _ 96 _ [vR 1, vI v1, vI v2, vI v3, vI v4] [vR 2, vI (10 * v4)] _ _
          refine ex_pu (ls' := [vR 1, vI v1, vI v2, vI v3, vI v4]) (st' := [vR 1, vR 2, vI (10 * v4)]) (dg dc96 32 rfl) rfl rfl ?_
          refine ex_getI (dg dc96 33 rfl) rfl (LOC.st (Nat.le_of_ble_eq_true rfl) rfl) rfl ?_
          refine ex_pu (ls' := [vR 1, vI v1, vI v2, vI v3, vI v4]) (st' := [vI v3, vI (M_5 1 4), vR 2, vI (10 * v4)]) (dg dc96 34 rfl) rfl rfl ?_
          refine ex_pu (ls' := [vR 1, vI v1, vI v2, vI v3, vI v4]) (st' := [vI ((M_5 1 4) + v3), vR 2, vI (10 * v4)]) (dg dc96 35 rfl) rfl rfl ?_
          refine ex_iald (dg dc96 36 rfl) (LOC.st (Nat.le_of_ble_eq_true rfl) rfl) rfl hf (fun _ hf => ?_)
          refine ex_pu (ls' := [vR 1, vI v1, vI v2, vI v3, vI v4]) (st' := [vI ((10 * v4) + (M_5 2 (((M_5 1 4) + v3)).toNat))]) (dg dc96 37 rfl) rfl rfl ?_
          refine ex_pu (ls' := [vR 1, vI v1, vI v2, vI v3, vI v4]) (st' := [vI 48, vI ((10 * v4) + (M_5 2 (((M_5 1 4) + v3)).toNat))]) (dg dc96 38 rfl) rfl rfl ?_
          refine ex_pu (ls' := [vR 1, vI v1, vI v2, vI v3, vI v4]) (st' := [vI (((10 * v4) + (M_5 2 (((M_5 1 4) + v3)).toNat)) - 48)]) (dg dc96 39 rfl) rfl rfl ?_
          refine ex_pu (ls' := [vR 1, vI v1, vI v2, vI v3, vI (((10 * v4) + (M_5 2 (((M_5 1 4) + v3)).toNat)) - 48)]) (st' := []) (dg dc96 40 rfl) rfl rfl ?_
          refine ex_pu (ls' := [vR 1, vI v1, vI v2, vI (v3 + 1), vI (((10 * v4) + (M_5 2 (((M_5 1 4) + v3)).toNat)) - 48)]) (st' := []) (dg dc96 41 rfl) rfl rfl ?_
          refine ex_goto (t := 9) (dg dc96 42 rfl) rfl rfl ?_
          exact ih (v3 + 1) (((10 * v4) + (M_5 2 (((M_5 1 4) + v3)).toNat)) - 48) M_5 hf
def tape_needNumber_J76   (v1 v2 v3 v4 : Int) (M : MM) : OR :=
  (bif cmpB .ne (M 1 2) (-1) then (bV (tape_failAt (M 1 4) M) fun M_11 => some (rI v1, M_11)) else (bif cmpB .eq v3 0 then (bV (tape_failAt (M 1 4) M) fun M_14 => some (rI v1, M_14)) else (bif cmpB .gt v3 3 then (bV (tape_failAt (M 1 4) M) fun M_17 => some (rI v1, M_17)) else (bif cmpB .lt v4 v1 then (bV (tape_failAt (M 1 4) M) fun M_20 => some (rI v1, M_20)) else (bif cmpB .le v4 v2 then (sM (mU M 1 3 (M 1 4)) fun M_22 => (sM (mU M_22 1 4 ((M_22 1 4) + v3)) fun M_24 => some (rI v4, M_24))) else (bV (tape_failAt (M 1 4) M) fun M_27 => some (rI v1, M_27)))))))
set_option maxRecDepth 4000 in
theorem tape_needNumber_J76_ok {Z : Nat × (Nat → Int)} {d : Nat} (hd : 1 ≤ d)   {res : AR × MM}  : ∀ (v1 v2 v3 v4 : Int) (M : MM), tape_needNumber_J76   v1 v2 v3 v4 M = some res → EX Z d 96 76 [vR 1, vI v1, vI v2, vI v3, vI v4] [] M res := by
  obtain ⟨e9, rfl⟩ : ∃ e9, d = e9 + 1 := ⟨d - 1, by omega⟩
  intro v1 v2 v3 v4 M hf
  unfold tape_needNumber_J76 at hf
  refine ex_pu (ls' := [vR 1, vI v1, vI v2, vI v3, vI v4]) (st' := [vR 1]) (dg dc96 43 rfl) rfl rfl ?_
  refine ex_getI (dg dc96 44 rfl) rfl (LOC.st (Nat.le_of_ble_eq_true rfl) rfl) rfl ?_
  refine ex_pu (ls' := [vR 1, vI v1, vI v2, vI v3, vI v4]) (st' := [vI (-1), vI (M 1 2)]) (dg dc96 45 rfl) rfl rfl ?_
  refine ex_icmp (t := 105) (dg dc96 46 rfl) rfl hf (fun _ hf => ?_) (fun _ hf => ?_)
  · refine ex_pu (ls' := [vR 1, vI v1, vI v2, vI v3, vI v4]) (st' := [vR 1]) (dg dc96 58 rfl) rfl rfl ?_
    refine ex_pu (ls' := [vR 1, vI v1, vI v2, vI v3, vI v4]) (st' := [vR 1, vR 1]) (dg dc96 59 rfl) rfl rfl ?_
    refine ex_getI (dg dc96 60 rfl) rfl (LOC.st (Nat.le_of_ble_eq_true rfl) rfl) rfl ?_
    refine ex_cV (vs := [vR 1, vI (M 1 4)]) (st' := []) (F := (tape_failAt (M 1 4) M)) (Or.inr (Or.inl ⟨rfl, (dg dc96 61 rfl)⟩)) rfl rfl (rk1 (LOC.st (Nat.le_of_ble_eq_true rfl) rfl) rfl) rfl (fun _ r9 => tape_failAt_ok (Z := Z) (d := e9) (by omega)  r9) hf (fun M_11 he_10 hf => ?_)
    refine ex_pu (ls' := [vR 1, vI v1, vI v2, vI v3, vI v4]) (st' := [vI v1]) (dg dc96 62 rfl) rfl rfl ?_
    exact ex_ire (dg dc96 63 rfl) rfl hf
  · refine ex_pu (ls' := [vR 1, vI v1, vI v2, vI v3, vI v4]) (st' := [vI v3]) (dg dc96 47 rfl) rfl rfl ?_
    refine ex_if (t := 105) (dg dc96 48 rfl) rfl hf (fun _ hf => ?_) (fun _ hf => ?_)
    · refine ex_pu (ls' := [vR 1, vI v1, vI v2, vI v3, vI v4]) (st' := [vR 1]) (dg dc96 58 rfl) rfl rfl ?_
      refine ex_pu (ls' := [vR 1, vI v1, vI v2, vI v3, vI v4]) (st' := [vR 1, vR 1]) (dg dc96 59 rfl) rfl rfl ?_
      refine ex_getI (dg dc96 60 rfl) rfl (LOC.st (Nat.le_of_ble_eq_true rfl) rfl) rfl ?_
      refine ex_cV (vs := [vR 1, vI (M 1 4)]) (st' := []) (F := (tape_failAt (M 1 4) M)) (Or.inr (Or.inl ⟨rfl, (dg dc96 61 rfl)⟩)) rfl rfl (rk1 (LOC.st (Nat.le_of_ble_eq_true rfl) rfl) rfl) rfl (fun _ r9 => tape_failAt_ok (Z := Z) (d := e9) (by omega)  r9) hf (fun M_14 he_13 hf => ?_)
      refine ex_pu (ls' := [vR 1, vI v1, vI v2, vI v3, vI v4]) (st' := [vI v1]) (dg dc96 62 rfl) rfl rfl ?_
      exact ex_ire (dg dc96 63 rfl) rfl hf
    · refine ex_pu (ls' := [vR 1, vI v1, vI v2, vI v3, vI v4]) (st' := [vI v3]) (dg dc96 49 rfl) rfl rfl ?_
      refine ex_pu (ls' := [vR 1, vI v1, vI v2, vI v3, vI v4]) (st' := [vI 3, vI v3]) (dg dc96 50 rfl) rfl rfl ?_
      refine ex_icmp (t := 105) (dg dc96 51 rfl) rfl hf (fun _ hf => ?_) (fun _ hf => ?_)
      · refine ex_pu (ls' := [vR 1, vI v1, vI v2, vI v3, vI v4]) (st' := [vR 1]) (dg dc96 58 rfl) rfl rfl ?_
        refine ex_pu (ls' := [vR 1, vI v1, vI v2, vI v3, vI v4]) (st' := [vR 1, vR 1]) (dg dc96 59 rfl) rfl rfl ?_
        refine ex_getI (dg dc96 60 rfl) rfl (LOC.st (Nat.le_of_ble_eq_true rfl) rfl) rfl ?_
        refine ex_cV (vs := [vR 1, vI (M 1 4)]) (st' := []) (F := (tape_failAt (M 1 4) M)) (Or.inr (Or.inl ⟨rfl, (dg dc96 61 rfl)⟩)) rfl rfl (rk1 (LOC.st (Nat.le_of_ble_eq_true rfl) rfl) rfl) rfl (fun _ r9 => tape_failAt_ok (Z := Z) (d := e9) (by omega)  r9) hf (fun M_17 he_16 hf => ?_)
        refine ex_pu (ls' := [vR 1, vI v1, vI v2, vI v3, vI v4]) (st' := [vI v1]) (dg dc96 62 rfl) rfl rfl ?_
        exact ex_ire (dg dc96 63 rfl) rfl hf
      · refine ex_pu (ls' := [vR 1, vI v1, vI v2, vI v3, vI v4]) (st' := [vI v4]) (dg dc96 52 rfl) rfl rfl ?_
        refine ex_pu (ls' := [vR 1, vI v1, vI v2, vI v3, vI v4]) (st' := [vI v1, vI v4]) (dg dc96 53 rfl) rfl rfl ?_
        refine ex_icmp (t := 105) (dg dc96 54 rfl) rfl hf (fun _ hf => ?_) (fun _ hf => ?_)
        · refine ex_pu (ls' := [vR 1, vI v1, vI v2, vI v3, vI v4]) (st' := [vR 1]) (dg dc96 58 rfl) rfl rfl ?_
          refine ex_pu (ls' := [vR 1, vI v1, vI v2, vI v3, vI v4]) (st' := [vR 1, vR 1]) (dg dc96 59 rfl) rfl rfl ?_
          refine ex_getI (dg dc96 60 rfl) rfl (LOC.st (Nat.le_of_ble_eq_true rfl) rfl) rfl ?_
          refine ex_cV (vs := [vR 1, vI (M 1 4)]) (st' := []) (F := (tape_failAt (M 1 4) M)) (Or.inr (Or.inl ⟨rfl, (dg dc96 61 rfl)⟩)) rfl rfl (rk1 (LOC.st (Nat.le_of_ble_eq_true rfl) rfl) rfl) rfl (fun _ r9 => tape_failAt_ok (Z := Z) (d := e9) (by omega)  r9) hf (fun M_20 he_19 hf => ?_)
          refine ex_pu (ls' := [vR 1, vI v1, vI v2, vI v3, vI v4]) (st' := [vI v1]) (dg dc96 62 rfl) rfl rfl ?_
          exact ex_ire (dg dc96 63 rfl) rfl hf
        · refine ex_pu (ls' := [vR 1, vI v1, vI v2, vI v3, vI v4]) (st' := [vI v4]) (dg dc96 55 rfl) rfl rfl ?_
          refine ex_pu (ls' := [vR 1, vI v1, vI v2, vI v3, vI v4]) (st' := [vI v2, vI v4]) (dg dc96 56 rfl) rfl rfl ?_
          refine ex_icmp (t := 115) (dg dc96 57 rfl) rfl hf (fun _ hf => ?_) (fun _ hf => ?_)
          · refine ex_pu (ls' := [vR 1, vI v1, vI v2, vI v3, vI v4]) (st' := [vR 1]) (dg dc96 64 rfl) rfl rfl ?_
            refine ex_pu (ls' := [vR 1, vI v1, vI v2, vI v3, vI v4]) (st' := [vR 1, vR 1]) (dg dc96 65 rfl) rfl rfl ?_
            refine ex_getI (dg dc96 66 rfl) rfl (LOC.st (Nat.le_of_ble_eq_true rfl) rfl) rfl ?_
            refine ex_putI (dg dc96 67 rfl) rfl (LOC.st (Nat.le_of_ble_eq_true rfl) rfl) rfl rfl rfl ?_
            refine ex_gen hf (fun M_22 hM_23 hf => ?_)
            refine ex_pu (ls' := [vR 1, vI v1, vI v2, vI v3, vI v4]) (st' := [vR 1]) (dg dc96 68 rfl) rfl rfl ?_
            refine ex_pu (ls' := [vR 1, vI v1, vI v2, vI v3, vI v4]) (st' := [vR 1, vR 1]) (dg dc96 69 rfl) rfl rfl ?_
            refine ex_getI (dg dc96 70 rfl) rfl (LOC.st (Nat.le_of_ble_eq_true rfl) rfl) rfl ?_
            refine ex_pu (ls' := [vR 1, vI v1, vI v2, vI v3, vI v4]) (st' := [vI v3, vI (M_22 1 4), vR 1]) (dg dc96 71 rfl) rfl rfl ?_
            refine ex_pu (ls' := [vR 1, vI v1, vI v2, vI v3, vI v4]) (st' := [vI ((M_22 1 4) + v3), vR 1]) (dg dc96 72 rfl) rfl rfl ?_
            refine ex_putI (dg dc96 73 rfl) rfl (LOC.st (Nat.le_of_ble_eq_true rfl) rfl) rfl rfl rfl ?_
            refine ex_gen hf (fun M_24 hM_25 hf => ?_)
            refine ex_pu (ls' := [vR 1, vI v1, vI v2, vI v3, vI v4]) (st' := [vI v4]) (dg dc96 74 rfl) rfl rfl ?_
            exact ex_ire (dg dc96 75 rfl) rfl hf
          · refine ex_pu (ls' := [vR 1, vI v1, vI v2, vI v3, vI v4]) (st' := [vR 1]) (dg dc96 58 rfl) rfl rfl ?_
            refine ex_pu (ls' := [vR 1, vI v1, vI v2, vI v3, vI v4]) (st' := [vR 1, vR 1]) (dg dc96 59 rfl) rfl rfl ?_
            refine ex_getI (dg dc96 60 rfl) rfl (LOC.st (Nat.le_of_ble_eq_true rfl) rfl) rfl ?_
            refine ex_cV (vs := [vR 1, vI (M 1 4)]) (st' := []) (F := (tape_failAt (M 1 4) M)) (Or.inr (Or.inl ⟨rfl, (dg dc96 61 rfl)⟩)) rfl rfl (rk1 (LOC.st (Nat.le_of_ble_eq_true rfl) rfl) rfl) rfl (fun _ r9 => tape_failAt_ok (Z := Z) (d := e9) (by omega)  r9) hf (fun M_27 he_26 hf => ?_)
            refine ex_pu (ls' := [vR 1, vI v1, vI v2, vI v3, vI v4]) (st' := [vI v1]) (dg dc96 62 rfl) rfl rfl ?_
            exact ex_ire (dg dc96 63 rfl) rfl hf
def tape_needNumber (v1 : Int) (v2 : Int) (M : MM) : OR :=
  (bV (tape_skipBlanks  M) fun M_2 => (tape_needNumber_L9 v1 v2 (fun v3_7 v4_8 M_9 => (tape_needNumber_J76   v1 v2 v3_7 v4_8 M_9)) FU 0 0 M_2))
set_option maxRecDepth 4000 in
theorem tape_needNumber_ok {Z : Nat × (Nat → Int)} {d : Nat} (hd : 1 ≤ d) {M : MM}  {v1 v2 : Int} {res : AR × MM} (hf : tape_needNumber v1 v2 M = some res) : EX Z d 96 0 (ent 96 [vR 1, vI v1, vI v2]) [] M res := by
  obtain ⟨e9, rfl⟩ : ∃ e9, d = e9 + 1 := ⟨d - 1, by omega⟩
  unfold tape_needNumber at hf
  show EX Z _ 96 0 [vR 1, vI v1, vI v2, vU, vU] [] M res
  refine ex_pu (ls' := [vR 1, vI v1, vI v2, vU, vU]) (st' := [vR 1]) (dg dc96 0 rfl) rfl rfl ?_
  refine ex_cV (vs := [vR 1]) (st' := []) (F := (tape_skipBlanks  M)) (Or.inr (Or.inl ⟨rfl, (dg dc96 1 rfl)⟩)) rfl rfl (rk1 (LOC.st (Nat.le_of_ble_eq_true rfl) rfl) rfl) rfl (fun _ r9 => tape_skipBlanks_ok (Z := Z) (d := e9) (by omega)  r9) hf (fun M_2 he_1 hf => ?_)
  refine ex_pu (ls' := [vR 1, vI v1, vI v2, vU, vU]) (st' := [vI 0]) (dg dc96 2 rfl) rfl rfl ?_
  refine ex_pu (ls' := [vR 1, vI v1, vI v2, vI 0, vU]) (st' := []) (dg dc96 3 rfl) rfl rfl ?_
  refine ex_pu (ls' := [vR 1, vI v1, vI v2, vI 0, vU]) (st' := [vI 0]) (dg dc96 4 rfl) rfl rfl ?_
  refine ex_pu (ls' := [vR 1, vI v1, vI v2, vI 0, vI 0]) (st' := []) (dg dc96 5 rfl) rfl rfl ?_
  refine tape_needNumber_L9_ok hd  ?_ FU 0 0 M_2 hf
  · intro v3_7 v4_8 M_9 hf
    exact tape_needNumber_J76_ok hd   v1 v2 v3_7 v4_8 M_9 hf
-- GlassHill$Tape.nextIsDigit
def il97 : List (Nat × Instr × Nat) := [(0, .aload_n 0, 1), (1, .invokevirtual 35, 3), (4, .aload_n 0, 1), (5, .getfield 19, 3), (8, .iconst (-1), 1), (9, .if_icmp .ne 37, 3), (12, .aload_n 0, 1), (13, .getfield 25, 3), (16, .aload_n 0, 1), (17, .getfield 15, 3), (20, .if_icmp .ge 26, 3), (23, .aload_n 0, 1), (24, .getfield 11, 3), (27, .aload_n 0, 1), (28, .getfield 25, 3), (31, .iaload, 1), (32, .bipush 48, 2), (34, .bipush 57, 2), (36, .invokestatic 42, 3), (39, .ifCond .eq 7, 3), (42, .iconst 1, 1), (43, .goto 4, 3), (46, .iconst 0, 1), (47, .ireturn, 1)]
theorem dc97 : dcs (mC 97) il97 := dc_of (by decide +kernel)
def tape_nextIsDigit  (M : MM) : OR :=
  (bV (tape_skipBlanks  M) fun M_2 => (bif cmpB .ne (M_2 1 2) (-1) then some (rI 0, M_2) else (bif cmpB .ge (M_2 1 4) (M_2 1 1) then some (rI 0, M_2) else (bif inB (M_2 1 4) 400 then (bI (tape_isWithin (M_2 2 ((M_2 1 4)).toNat) 48 57 M_2) fun z_6 M_5 => (bif cmpB .eq z_6 0 then some (rI 0, M_5) else some (rI 1, M_5))) else none))))
set_option maxRecDepth 4000 in
theorem tape_nextIsDigit_ok {Z : Nat × (Nat → Int)} {d : Nat} (hd : 1 ≤ d) {M : MM}  {res : AR × MM} (hf : tape_nextIsDigit  M = some res) : EX Z d 97 0 (ent 97 [vR 1]) [] M res := by
  obtain ⟨e9, rfl⟩ : ∃ e9, d = e9 + 1 := ⟨d - 1, by omega⟩
  unfold tape_nextIsDigit at hf
  show EX Z _ 97 0 [vR 1] [] M res
  refine ex_pu (ls' := [vR 1]) (st' := [vR 1]) (dg dc97 0 rfl) rfl rfl ?_
  refine ex_cV (vs := [vR 1]) (st' := []) (F := (tape_skipBlanks  M)) (Or.inr (Or.inl ⟨rfl, (dg dc97 1 rfl)⟩)) rfl rfl (rk1 (LOC.st (Nat.le_of_ble_eq_true rfl) rfl) rfl) rfl (fun _ r9 => tape_skipBlanks_ok (Z := Z) (d := e9) (by omega)  r9) hf (fun M_2 he_1 hf => ?_)
  refine ex_pu (ls' := [vR 1]) (st' := [vR 1]) (dg dc97 2 rfl) rfl rfl ?_
  refine ex_getI (dg dc97 3 rfl) rfl (LOC.st (Nat.le_of_ble_eq_true rfl) rfl) rfl ?_
  refine ex_pu (ls' := [vR 1]) (st' := [vI (-1), vI (M_2 1 2)]) (dg dc97 4 rfl) rfl rfl ?_
  refine ex_icmp (t := 46) (dg dc97 5 rfl) rfl hf (fun _ hf => ?_) (fun _ hf => ?_)
  · refine ex_pu (ls' := [vR 1]) (st' := [vI 0]) (dg dc97 22 rfl) rfl rfl ?_
    exact ex_ire (dg dc97 23 rfl) rfl hf
  · refine ex_pu (ls' := [vR 1]) (st' := [vR 1]) (dg dc97 6 rfl) rfl rfl ?_
    refine ex_getI (dg dc97 7 rfl) rfl (LOC.st (Nat.le_of_ble_eq_true rfl) rfl) rfl ?_
    refine ex_pu (ls' := [vR 1]) (st' := [vR 1, vI (M_2 1 4)]) (dg dc97 8 rfl) rfl rfl ?_
    refine ex_getI (dg dc97 9 rfl) rfl (LOC.st (Nat.le_of_ble_eq_true rfl) rfl) rfl ?_
    refine ex_icmp (t := 46) (dg dc97 10 rfl) rfl hf (fun _ hf => ?_) (fun _ hf => ?_)
    · refine ex_pu (ls' := [vR 1]) (st' := [vI 0]) (dg dc97 22 rfl) rfl rfl ?_
      exact ex_ire (dg dc97 23 rfl) rfl hf
    · refine ex_pu (ls' := [vR 1]) (st' := [vR 1]) (dg dc97 11 rfl) rfl rfl ?_
      refine ex_getO (dg dc97 12 rfl) rfl (LOC.st (Nat.le_of_ble_eq_true rfl) rfl) rfl ?_
      show EX Z _ 97 _ [vR 1] [vR 2] _ _
      refine ex_pu (ls' := [vR 1]) (st' := [vR 1, vR 2]) (dg dc97 13 rfl) rfl rfl ?_
      refine ex_getI (dg dc97 14 rfl) rfl (LOC.st (Nat.le_of_ble_eq_true rfl) rfl) rfl ?_
      refine ex_iald (dg dc97 15 rfl) (LOC.st (Nat.le_of_ble_eq_true rfl) rfl) rfl hf (fun _ hf => ?_)
      refine ex_pu (ls' := [vR 1]) (st' := [vI 48, vI (M_2 2 ((M_2 1 4)).toNat)]) (dg dc97 16 rfl) rfl rfl ?_
      refine ex_pu (ls' := [vR 1]) (st' := [vI 57, vI 48, vI (M_2 2 ((M_2 1 4)).toNat)]) (dg dc97 17 rfl) rfl rfl ?_
      refine ex_cI (vs := [vI (M_2 2 ((M_2 1 4)).toNat), vI 48, vI 57]) (st' := []) (F := (tape_isWithin (M_2 2 ((M_2 1 4)).toNat) 48 57 M_2)) (Or.inl ⟨rfl, (dg dc97 18 rfl)⟩) rfl rfl (Or.inl rfl) rfl (fun _ r9 => tape_isWithin_ok (Z := Z) (d := e9) (by omega)  r9) hf (fun z_6 M_5 he_4 hf => ?_)
      refine ex_if (t := 46) (dg dc97 19 rfl) rfl hf (fun _ hf => ?_) (fun _ hf => ?_)
      · refine ex_pu (ls' := [vR 1]) (st' := [vI 0]) (dg dc97 22 rfl) rfl rfl ?_
        exact ex_ire (dg dc97 23 rfl) rfl hf
      · refine ex_pu (ls' := [vR 1]) (st' := [vI 1]) (dg dc97 20 rfl) rfl rfl ?_
        refine ex_goto (t := 47) (dg dc97 21 rfl) rfl rfl ?_
        exact ex_ire (dg dc97 23 rfl) rfl hf
-- GlassHill$Ways.meetingPlace
def il104 : List (Nat × Instr × Nat) := [(0, .aload_n 0, 1), (1, .iload_n 1, 1), (2, .aload_n 0, 1), (3, .getfield 9, 3), (6, .invokevirtual 47, 3), (9, .aload_n 0, 1), (10, .iload_n 2, 1), (11, .aload_n 0, 1), (12, .getfield 15, 3), (15, .invokevirtual 47, 3), (18, .iconst (-1), 1), (19, .istore_n 3, 1), (20, .ldc 22, 2), (22, .istore 4, 2), (24, .iconst 0, 1), (25, .istore 5, 2), (27, .iload 5, 2), (29, .aload_n 0, 1), (30, .getfield 18, 3), (33, .getfield 51, 3), (36, .if_icmp .ge 38, 3), (39, .iload 5, 2), (41, .bipush 10, 2), (43, .if_icmp .ge 31, 3), (46, .aload_n 0, 1), (47, .iload 5, 2), (49, .invokevirtual 54, 3), (52, .iload 4, 2), (54, .if_icmp .ge 14, 3), (57, .iload 5, 2), (59, .istore_n 3, 1), (60, .aload_n 0, 1), (61, .iload 5, 2), (63, .invokevirtual 54, 3), (66, .istore 4, 2), (68, .iinc 5 1, 3), (71, .goto (-44), 3), (74, .iload_n 3, 1), (75, .ireturn, 1)]
theorem dc104 : dcs (mC 104) il104 := dc_of (by decide +kernel)
def ways_meetingPlace_L27  (K1 : Int → MM → OR) : Nat → Int → Int → Int → MM → OR
  | 0, _, _, _, _ => none
  | n + 1, v3, v4, v5, M => (bif cmpB .ge v5 (M 3 0) then (K1 v3 M) else (bif cmpB .ge v5 10 then (K1 v3 M) else (bI (ways_hoursToBothEnds v5 M) fun z_9 M_8 => (bif cmpB .ge z_9 v4 then (ways_meetingPlace_L27  K1 n v3 v4 (v5 + 1) M_8) else (bI (ways_hoursToBothEnds v5 M_8) fun z_13 M_12 => (ways_meetingPlace_L27  K1 n v5 z_13 (v5 + 1) M_12))))))
set_option maxRecDepth 4000 in
theorem ways_meetingPlace_L27_ok {Z : Nat × (Nat → Int)} {d : Nat} (hd : 2 ≤ d)  {K1 : Int → MM → OR} {res : AR × MM} (k1 : ∀ (x3 : Int) (M : MM) (j0 j1 j2 j4 j5 : AV), K1 x3 M = some res → EX Z d 104 74 [j0, j1, j2, vI x3, j4, j5] [] M res) : ∀ (n : Nat) (v3 v4 v5 : Int) (M : MM) (j1 j2 : AV), ways_meetingPlace_L27  K1 n v3 v4 v5 M = some res → EX Z d 104 27 [vR 158, j1, j2, vI v3, vI v4, vI v5] [] M res := by
  obtain ⟨e9, rfl⟩ : ∃ e9, d = e9 + 1 := ⟨d - 1, by omega⟩
  intro n
  induction n with
  | zero =>
    intro v3 v4 v5 M j1 j2 hf
    unfold ways_meetingPlace_L27 at hf
    cases hf
  | succ n ih =>
    intro v3 v4 v5 M j1 j2 hf
    unfold ways_meetingPlace_L27 at hf
    refine ex_pu (ls' := [vR 158, j1, j2, vI v3, vI v4, vI v5]) (st' := [vI v5]) (dg dc104 16 rfl) rfl rfl ?_
    refine ex_pu (ls' := [vR 158, j1, j2, vI v3, vI v4, vI v5]) (st' := [vR 158, vI v5]) (dg dc104 17 rfl) rfl rfl ?_
    refine ex_getF (dg dc104 18 rfl) rfl (LOC.st (Nat.le_of_ble_eq_true rfl) rfl) rfl ?_
    refine ex_getI (dg dc104 19 rfl) rfl (LOC.st (Nat.le_of_ble_eq_true rfl) rfl) rfl ?_
    refine ex_icmp (t := 74) (dg dc104 20 rfl) rfl hf (fun _ hf => ?_) (fun _ hf => ?_)
    · exact k1 v3 M _ _ _ _ _ hf
    · refine ex_pu (ls' := [vR 158, j1, j2, vI v3, vI v4, vI v5]) (st' := [vI v5]) (dg dc104 21 rfl) rfl rfl ?_
      refine ex_pu (ls' := [vR 158, j1, j2, vI v3, vI v4, vI v5]) (st' := [vI 10, vI v5]) (dg dc104 22 rfl) rfl rfl ?_
      refine ex_icmp (t := 74) (dg dc104 23 rfl) rfl hf (fun _ hf => ?_) (fun _ hf => ?_)
      · exact k1 v3 M _ _ _ _ _ hf
      · refine ex_pu (ls' := [vR 158, j1, j2, vI v3, vI v4, vI v5]) (st' := [vR 158]) (dg dc104 24 rfl) rfl rfl ?_
        refine ex_pu (ls' := [vR 158, j1, j2, vI v3, vI v4, vI v5]) (st' := [vI v5, vR 158]) (dg dc104 25 rfl) rfl rfl ?_
        refine ex_cI (vs := [vR 158, vI v5]) (st' := []) (F := (ways_hoursToBothEnds v5 M)) (Or.inr (Or.inl ⟨rfl, (dg dc104 26 rfl)⟩)) rfl rfl (rk1 (LOC.st (Nat.le_of_ble_eq_true rfl) rfl) rfl) rfl (fun _ r9 => ways_hoursToBothEnds_ok (Z := Z) (d := e9) (by omega)  r9) hf (fun z_9 M_8 he_7 hf => ?_)
        refine ex_pu (ls' := [vR 158, j1, j2, vI v3, vI v4, vI v5]) (st' := [vI v4, vI z_9]) (dg dc104 27 rfl) rfl rfl ?_
        refine ex_icmp (t := 68) (dg dc104 28 rfl) rfl hf (fun _ hf => ?_) (fun _ hf => ?_)
        · refine ex_pu (ls' := [vR 158, j1, j2, vI v3, vI v4, vI (v5 + 1)]) (st' := []) (dg dc104 35 rfl) rfl rfl ?_
          refine ex_goto (t := 27) (dg dc104 36 rfl) rfl rfl ?_
          exact ih v3 v4 (v5 + 1) M_8 _ _ hf
        · refine ex_pu (ls' := [vR 158, j1, j2, vI v3, vI v4, vI v5]) (st' := [vI v5]) (dg dc104 29 rfl) rfl rfl ?_
          refine ex_istDn (dg dc104 30 rfl) rfl rfl (fun w_10 => ?_)
          show EX Z _ 104 _ [vR 158, j1, w_10, vI v5, vI v4, vI v5] [] _ _
          refine ex_pu (ls' := [vR 158, j1, w_10, vI v5, vI v4, vI v5]) (st' := [vR 158]) (dg dc104 31 rfl) rfl rfl ?_
          refine ex_pu (ls' := [vR 158, j1, w_10, vI v5, vI v4, vI v5]) (st' := [vI v5, vR 158]) (dg dc104 32 rfl) rfl rfl ?_
          refine ex_cI (vs := [vR 158, vI v5]) (st' := []) (F := (ways_hoursToBothEnds v5 M_8)) (Or.inr (Or.inl ⟨rfl, (dg dc104 33 rfl)⟩)) rfl rfl (rk1 (LOC.st (Nat.le_of_ble_eq_true rfl) rfl) rfl) rfl (fun _ r9 => ways_hoursToBothEnds_ok (Z := Z) (d := e9) (by omega)  r9) hf (fun z_13 M_12 he_11 hf => ?_)
          refine ex_pu (ls' := [vR 158, j1, w_10, vI v5, vI z_13, vI v5]) (st' := []) (dg dc104 34 rfl) rfl rfl ?_
          refine ex_pu (ls' := [vR 158, j1, w_10, vI v5, vI z_13, vI (v5 + 1)]) (st' := []) (dg dc104 35 rfl) rfl rfl ?_
          refine ex_goto (t := 27) (dg dc104 36 rfl) rfl rfl ?_
          exact ih v5 z_13 (v5 + 1) M_12 _ _ hf
def ways_meetingPlace (v1 : Int) (v2 : Int) (M : MM) : OR :=
  (bV (ways_measure v1 159 M) fun M_2 => (bV (ways_measure v2 160 M_2) fun M_5 => (ways_meetingPlace_L27  (fun v3_14 M_15 => some (rI v3_14, M_15)) FU (-1) 1000000 0 M_5)))
set_option maxRecDepth 4000 in
theorem ways_meetingPlace_ok {Z : Nat × (Nat → Int)} {d : Nat} (hd : 2 ≤ d) {M : MM}  {v1 v2 : Int} {res : AR × MM} (hf : ways_meetingPlace v1 v2 M = some res) : EX Z d 104 0 (ent 104 [vR 158, vI v1, vI v2]) [] M res := by
  obtain ⟨e9, rfl⟩ : ∃ e9, d = e9 + 1 := ⟨d - 1, by omega⟩
  unfold ways_meetingPlace at hf
  show EX Z _ 104 0 [vR 158, vI v1, vI v2, vU, vU, vU] [] M res
  refine ex_pu (ls' := [vR 158, vI v1, vI v2, vU, vU, vU]) (st' := [vR 158]) (dg dc104 0 rfl) rfl rfl ?_
  refine ex_pu (ls' := [vR 158, vI v1, vI v2, vU, vU, vU]) (st' := [vI v1, vR 158]) (dg dc104 1 rfl) rfl rfl ?_
  refine ex_pu (ls' := [vR 158, vI v1, vI v2, vU, vU, vU]) (st' := [vR 158, vI v1, vR 158]) (dg dc104 2 rfl) rfl rfl ?_
  refine ex_getO (dg dc104 3 rfl) rfl (LOC.st (Nat.le_of_ble_eq_true rfl) rfl) rfl ?_
  show EX Z _ 104 _ [vR 158, vI v1, vI v2, vU, vU, vU] [vR 159, vI v1, vR 158] _ _
  refine ex_cV (vs := [vR 158, vI v1, vR 159]) (st' := []) (F := (ways_measure v1 159 M)) (Or.inr (Or.inl ⟨rfl, (dg dc104 4 rfl)⟩)) rfl rfl (rk1 (LOC.st (Nat.le_of_ble_eq_true rfl) rfl) rfl) rfl (fun _ r9 => ways_measure_ok (Z := Z) (d := e9) (by omega) isRow159  r9) hf (fun M_2 he_1 hf => ?_)
  refine ex_pu (ls' := [vR 158, vI v1, vI v2, vU, vU, vU]) (st' := [vR 158]) (dg dc104 5 rfl) rfl rfl ?_
  refine ex_pu (ls' := [vR 158, vI v1, vI v2, vU, vU, vU]) (st' := [vI v2, vR 158]) (dg dc104 6 rfl) rfl rfl ?_
  refine ex_pu (ls' := [vR 158, vI v1, vI v2, vU, vU, vU]) (st' := [vR 158, vI v2, vR 158]) (dg dc104 7 rfl) rfl rfl ?_
  refine ex_getO (dg dc104 8 rfl) rfl (LOC.st (Nat.le_of_ble_eq_true rfl) rfl) rfl ?_
  show EX Z _ 104 _ [vR 158, vI v1, vI v2, vU, vU, vU] [vR 160, vI v2, vR 158] _ _
  refine ex_cV (vs := [vR 158, vI v2, vR 160]) (st' := []) (F := (ways_measure v2 160 M_2)) (Or.inr (Or.inl ⟨rfl, (dg dc104 9 rfl)⟩)) rfl rfl (rk1 (LOC.st (Nat.le_of_ble_eq_true rfl) rfl) rfl) rfl (fun _ r9 => ways_measure_ok (Z := Z) (d := e9) (by omega) isRow160  r9) hf (fun M_5 he_4 hf => ?_)
  refine ex_pu (ls' := [vR 158, vI v1, vI v2, vU, vU, vU]) (st' := [vI (-1)]) (dg dc104 10 rfl) rfl rfl ?_
  refine ex_pu (ls' := [vR 158, vI v1, vI v2, vI (-1), vU, vU]) (st' := []) (dg dc104 11 rfl) rfl rfl ?_
  refine ex_ldcI (dg dc104 12 rfl) rfl ?_
  refine ex_pu (ls' := [vR 158, vI v1, vI v2, vI (-1), vI 1000000, vU]) (st' := []) (dg dc104 13 rfl) rfl rfl ?_
  refine ex_pu (ls' := [vR 158, vI v1, vI v2, vI (-1), vI 1000000, vU]) (st' := [vI 0]) (dg dc104 14 rfl) rfl rfl ?_
  refine ex_pu (ls' := [vR 158, vI v1, vI v2, vI (-1), vI 1000000, vI 0]) (st' := []) (dg dc104 15 rfl) rfl rfl ?_
  refine ways_meetingPlace_L27_ok hd  ?_ FU (-1) 1000000 0 M_5 _ _ hf
  · intro v3_14 M_15 j0_16 j1_17 j2_18 j4_19 j5_20 hf
    refine ex_pu (ls' := [j0_16, j1_17, j2_18, vI v3_14, j4_19, j5_20]) (st' := [vI v3_14]) (dg dc104 37 rfl) rfl rfl ?_
    exact ex_ire (dg dc104 38 rfl) rfl hf
-- GlassHill$Ways.placeFoundFirst
def il107 : List (Nat × Instr × Nat) := [(0, .aload_n 0, 1), (1, .aload_n 0, 1), (2, .getfield 18, 3), (5, .getfield 64, 3), (8, .iload_n 1, 1), (9, .iaload, 1), (10, .aload_n 0, 1), (11, .getfield 9, 3), (14, .invokevirtual 47, 3), (17, .iconst 1, 1), (18, .aload_n 0, 1), (19, .getfield 18, 3), (22, .getfield 51, 3), (25, .ishl, 1), (26, .iconst 1, 1), (27, .isub, 1), (28, .istore_n 2, 1), (29, .iconst 0, 1), (30, .istore_n 3, 1), (31, .iload_n 3, 1), (32, .aload_n 0, 1), (33, .getfield 18, 3), (36, .getfield 67, 3), (39, .if_icmp .ge 44, 3), (42, .iload_n 3, 1), (43, .bipush 7, 2), (45, .if_icmp .ge 38, 3), (48, .iload_n 3, 1), (49, .iload_n 1, 1), (50, .if_icmp .eq 27, 3), (53, .aload_n 0, 1), (54, .aload_n 0, 1), (55, .getfield 18, 3), (58, .getfield 64, 3), (61, .iload_n 3, 1), (62, .iaload, 1), (63, .aload_n 0, 1), (64, .getfield 15, 3), (67, .invokevirtual 47, 3), (70, .iload_n 2, 1), (71, .aload_n 0, 1), (72, .invokevirtual 70, 3), (75, .iand, 1), (76, .istore_n 2, 1), (77, .iinc 3 1, 3), (80, .goto (-49), 3), (83, .iconst (-1), 1), (84, .istore_n 3, 1), (85, .iconst 0, 1), (86, .istore 4, 2), (88, .iload 4, 2), (90, .aload_n 0, 1), (91, .getfield 18, 3), (94, .getfield 51, 3), (97, .if_icmp .ge 50, 3), (100, .iload 4, 2), (102, .bipush 10, 2), (104, .if_icmp .ge 43, 3), (107, .iload_n 2, 1), (108, .iload 4, 2), (110, .invokestatic 74, 3), (113, .iconst 1, 1), (114, .if_icmp .ne 27, 3), (117, .iload_n 3, 1), (118, .iconst (-1), 1), (119, .if_icmp .eq 19, 3), (122, .aload_n 0, 1), (123, .getfield 9, 3), (126, .iload 4, 2), (128, .iaload, 1), (129, .aload_n 0, 1), (130, .getfield 9, 3), (133, .iload_n 3, 1), (134, .iaload, 1), (135, .if_icmp .ge 6, 3), (138, .iload 4, 2), (140, .istore_n 3, 1), (141, .iinc 4 1, 3), (144, .goto (-56), 3), (147, .iload_n 3, 1), (148, .ireturn, 1)]
theorem dc107 : dcs (mC 107) il107 := dc_of (by decide +kernel)
def ways_placeFoundFirst_L31  (v1 : Int) (K1 : Int → MM → OR) : Nat → Int → Int → MM → OR
  | 0, _, _, _ => none
  | n + 1, v2, v3, M => (bif cmpB .ge v3 (M 3 3) then (K1 v2 M) else (bif cmpB .ge v3 7 then (K1 v2 M) else (bif cmpB .eq v3 v1 then (ways_placeFoundFirst_L31 v1 K1 n v2 (v3 + 1) M) else (bif inB v3 7 then (bV (ways_measure (M 14 (v3).toNat) 160 M) fun M_5 => (bI (ways_placesNearerToOne  M_5) fun z_9 M_8 => (ways_placeFoundFirst_L31 v1 K1 n (iAnd v2 z_9) (v3 + 1) M_8))) else none))))
set_option maxRecDepth 4000 in
theorem ways_placeFoundFirst_L31_ok {Z : Nat × (Nat → Int)} {d : Nat} (hd : 2 ≤ d)  {v1 : Int} {K1 : Int → MM → OR} {res : AR × MM} (k1 : ∀ (x2 : Int) (M : MM) (j1 j3 j4 : AV), K1 x2 M = some res → EX Z d 107 83 [vR 158, j1, vI x2, j3, j4] [] M res) : ∀ (n : Nat) (v2 v3 : Int) (M : MM) (j4 : AV), ways_placeFoundFirst_L31 v1 K1 n v2 v3 M = some res → EX Z d 107 31 [vR 158, vI v1, vI v2, vI v3, j4] [] M res := by
  obtain ⟨e9, rfl⟩ : ∃ e9, d = e9 + 1 := ⟨d - 1, by omega⟩
  intro n
  induction n with
  | zero =>
    intro v2 v3 M j4 hf
    unfold ways_placeFoundFirst_L31 at hf
    cases hf
  | succ n ih =>
    intro v2 v3 M j4 hf
    unfold ways_placeFoundFirst_L31 at hf
    refine ex_pu (ls' := [vR 158, vI v1, vI v2, vI v3, j4]) (st' := [vI v3]) (dg dc107 19 rfl) rfl rfl ?_
    refine ex_pu (ls' := [vR 158, vI v1, vI v2, vI v3, j4]) (st' := [vR 158, vI v3]) (dg dc107 20 rfl) rfl rfl ?_
    refine ex_getF (dg dc107 21 rfl) rfl (LOC.st (Nat.le_of_ble_eq_true rfl) rfl) rfl ?_
    refine ex_getI (dg dc107 22 rfl) rfl (LOC.st (Nat.le_of_ble_eq_true rfl) rfl) rfl ?_
    refine ex_icmp (t := 83) (dg dc107 23 rfl) rfl hf (fun _ hf => ?_) (fun _ hf => ?_)
    · exact k1 v2 M _ _ _ hf
    · refine ex_pu (ls' := [vR 158, vI v1, vI v2, vI v3, j4]) (st' := [vI v3]) (dg dc107 24 rfl) rfl rfl ?_
      refine ex_pu (ls' := [vR 158, vI v1, vI v2, vI v3, j4]) (st' := [vI 7, vI v3]) (dg dc107 25 rfl) rfl rfl ?_
      refine ex_icmp (t := 83) (dg dc107 26 rfl) rfl hf (fun _ hf => ?_) (fun _ hf => ?_)
      · exact k1 v2 M _ _ _ hf
      · refine ex_pu (ls' := [vR 158, vI v1, vI v2, vI v3, j4]) (st' := [vI v3]) (dg dc107 27 rfl) rfl rfl ?_
        refine ex_pu (ls' := [vR 158, vI v1, vI v2, vI v3, j4]) (st' := [vI v1, vI v3]) (dg dc107 28 rfl) rfl rfl ?_
        refine ex_icmp (t := 77) (dg dc107 29 rfl) rfl hf (fun _ hf => ?_) (fun _ hf => ?_)
        · refine ex_pu (ls' := [vR 158, vI v1, vI v2, vI (v3 + 1), j4]) (st' := []) (dg dc107 44 rfl) rfl rfl ?_
          refine ex_goto (t := 31) (dg dc107 45 rfl) rfl rfl ?_
          exact ih v2 (v3 + 1) M _ hf
        · refine ex_pu (ls' := [vR 158, vI v1, vI v2, vI v3, j4]) (st' := [vR 158]) (dg dc107 30 rfl) rfl rfl ?_
          refine ex_pu (ls' := [vR 158, vI v1, vI v2, vI v3, j4]) (st' := [vR 158, vR 158]) (dg dc107 31 rfl) rfl rfl ?_
          refine ex_getF (dg dc107 32 rfl) rfl (LOC.st (Nat.le_of_ble_eq_true rfl) rfl) rfl ?_
          refine ex_getO (dg dc107 33 rfl) rfl (LOC.st (Nat.le_of_ble_eq_true rfl) rfl) rfl ?_
          show EX Z _ 107 _ [vR 158, vI v1, vI v2, vI v3, j4] [vR 14, vR 158] _ _
          refine ex_pu (ls' := [vR 158, vI v1, vI v2, vI v3, j4]) (st' := [vI v3, vR 14, vR 158]) (dg dc107 34 rfl) rfl rfl ?_
          refine ex_iald (dg dc107 35 rfl) (LOC.st (Nat.le_of_ble_eq_true rfl) rfl) rfl hf (fun _ hf => ?_)
          refine ex_pu (ls' := [vR 158, vI v1, vI v2, vI v3, j4]) (st' := [vR 158, vI (M 14 (v3).toNat), vR 158]) (dg dc107 36 rfl) rfl rfl ?_
          refine ex_getO (dg dc107 37 rfl) rfl (LOC.st (Nat.le_of_ble_eq_true rfl) rfl) rfl ?_
          show EX Z _ 107 _ [vR 158, vI v1, vI v2, vI v3, j4] [vR 160, vI (M 14 (v3).toNat), vR 158] _ _
          refine ex_cV (vs := [vR 158, vI (M 14 (v3).toNat), vR 160]) (st' := []) (F := (ways_measure (M 14 (v3).toNat) 160 M)) (Or.inr (Or.inl ⟨rfl, (dg dc107 38 rfl)⟩)) rfl rfl (rk1 (LOC.st (Nat.le_of_ble_eq_true rfl) rfl) rfl) rfl (fun _ r9 => ways_measure_ok (Z := Z) (d := e9) (by omega) isRow160  r9) hf (fun M_5 he_4 hf => ?_)
          refine ex_pu (ls' := [vR 158, vI v1, vI v2, vI v3, j4]) (st' := [vI v2]) (dg dc107 39 rfl) rfl rfl ?_
          refine ex_pu (ls' := [vR 158, vI v1, vI v2, vI v3, j4]) (st' := [vR 158, vI v2]) (dg dc107 40 rfl) rfl rfl ?_
          refine ex_cI (vs := [vR 158]) (st' := [vI v2]) (F := (ways_placesNearerToOne  M_5)) (Or.inr (Or.inl ⟨rfl, (dg dc107 41 rfl)⟩)) rfl rfl (rk1 (LOC.st (Nat.le_of_ble_eq_true rfl) rfl) rfl) rfl (fun _ r9 => ways_placesNearerToOne_ok (Z := Z) (d := e9) (by omega)  r9) hf (fun z_9 M_8 he_7 hf => ?_)
          refine ex_pu (ls' := [vR 158, vI v1, vI v2, vI v3, j4]) (st' := [vI (iAnd v2 z_9)]) (dg dc107 42 rfl) rfl rfl ?_
          refine ex_pu (ls' := [vR 158, vI v1, vI (iAnd v2 z_9), vI v3, j4]) (st' := []) (dg dc107 43 rfl) rfl rfl ?_
          refine ex_pu (ls' := [vR 158, vI v1, vI (iAnd v2 z_9), vI (v3 + 1), j4]) (st' := []) (dg dc107 44 rfl) rfl rfl ?_
          refine ex_goto (t := 31) (dg dc107 45 rfl) rfl rfl ?_
          exact ih (iAnd v2 z_9) (v3 + 1) M_8 _ hf
def ways_placeFoundFirst_L88  (v2 : Int) (K1 : Int → MM → OR) : Nat → Int → Int → MM → OR
  | 0, _, _, _ => none
  | n + 1, v3, v4, M => (bif cmpB .ge v4 (M 3 0) then (K1 v3 M) else (bif cmpB .ge v4 10 then (K1 v3 M) else (bI (gh_bit v2 v4 M) fun z_17 M_16 => (bif cmpB .ne z_17 1 then (ways_placeFoundFirst_L88 v2 K1 n v3 (v4 + 1) M_16) else (bif cmpB .eq v3 (-1) then (ways_placeFoundFirst_L88 v2 K1 n v4 (v4 + 1) M_16) else (bif inB v4 10 then (bif inB v3 10 then (bif cmpB .ge (M_16 159 (v4).toNat) (M_16 159 (v3).toNat) then (ways_placeFoundFirst_L88 v2 K1 n v3 (v4 + 1) M_16) else (ways_placeFoundFirst_L88 v2 K1 n v4 (v4 + 1) M_16)) else none) else none))))))
set_option maxRecDepth 4000 in
theorem ways_placeFoundFirst_L88_ok {Z : Nat × (Nat → Int)} {d : Nat} (hd : 2 ≤ d)  {v2 : Int} {K1 : Int → MM → OR} {res : AR × MM} (k1 : ∀ (x3 : Int) (M : MM) (j0 j1 j2 j4 : AV), K1 x3 M = some res → EX Z d 107 147 [j0, j1, j2, vI x3, j4] [] M res) : ∀ (n : Nat) (v3 v4 : Int) (M : MM) (j1 : AV), ways_placeFoundFirst_L88 v2 K1 n v3 v4 M = some res → EX Z d 107 88 [vR 158, j1, vI v2, vI v3, vI v4] [] M res := by
  obtain ⟨e9, rfl⟩ : ∃ e9, d = e9 + 1 := ⟨d - 1, by omega⟩
  intro n
  induction n with
  | zero =>
    intro v3 v4 M j1 hf
    unfold ways_placeFoundFirst_L88 at hf
    cases hf
  | succ n ih =>
    intro v3 v4 M j1 hf
    unfold ways_placeFoundFirst_L88 at hf
    refine ex_pu (ls' := [vR 158, j1, vI v2, vI v3, vI v4]) (st' := [vI v4]) (dg dc107 50 rfl) rfl rfl ?_
    refine ex_pu (ls' := [vR 158, j1, vI v2, vI v3, vI v4]) (st' := [vR 158, vI v4]) (dg dc107 51 rfl) rfl rfl ?_
    refine ex_getF (dg dc107 52 rfl) rfl (LOC.st (Nat.le_of_ble_eq_true rfl) rfl) rfl ?_
    refine ex_getI (dg dc107 53 rfl) rfl (LOC.st (Nat.le_of_ble_eq_true rfl) rfl) rfl ?_
    refine ex_icmp (t := 147) (dg dc107 54 rfl) rfl hf (fun _ hf => ?_) (fun _ hf => ?_)
    · exact k1 v3 M _ _ _ _ hf
    · refine ex_pu (ls' := [vR 158, j1, vI v2, vI v3, vI v4]) (st' := [vI v4]) (dg dc107 55 rfl) rfl rfl ?_
      refine ex_pu (ls' := [vR 158, j1, vI v2, vI v3, vI v4]) (st' := [vI 10, vI v4]) (dg dc107 56 rfl) rfl rfl ?_
      refine ex_icmp (t := 147) (dg dc107 57 rfl) rfl hf (fun _ hf => ?_) (fun _ hf => ?_)
      · exact k1 v3 M _ _ _ _ hf
      · refine ex_pu (ls' := [vR 158, j1, vI v2, vI v3, vI v4]) (st' := [vI v2]) (dg dc107 58 rfl) rfl rfl ?_
        refine ex_pu (ls' := [vR 158, j1, vI v2, vI v3, vI v4]) (st' := [vI v4, vI v2]) (dg dc107 59 rfl) rfl rfl ?_
        refine ex_cI (vs := [vI v2, vI v4]) (st' := []) (F := (gh_bit v2 v4 M)) (Or.inl ⟨rfl, (dg dc107 60 rfl)⟩) rfl rfl (Or.inl rfl) rfl (fun _ r9 => gh_bit_ok (Z := Z) (d := e9) (by omega)  r9) hf (fun z_17 M_16 he_15 hf => ?_)
        refine ex_pu (ls' := [vR 158, j1, vI v2, vI v3, vI v4]) (st' := [vI 1, vI z_17]) (dg dc107 61 rfl) rfl rfl ?_
        refine ex_icmp (t := 141) (dg dc107 62 rfl) rfl hf (fun _ hf => ?_) (fun _ hf => ?_)
        · refine ex_pu (ls' := [vR 158, j1, vI v2, vI v3, vI (v4 + 1)]) (st' := []) (dg dc107 77 rfl) rfl rfl ?_
          refine ex_goto (t := 88) (dg dc107 78 rfl) rfl rfl ?_
          exact ih v3 (v4 + 1) M_16 _ hf
        · refine ex_pu (ls' := [vR 158, j1, vI v2, vI v3, vI v4]) (st' := [vI v3]) (dg dc107 63 rfl) rfl rfl ?_
          refine ex_pu (ls' := [vR 158, j1, vI v2, vI v3, vI v4]) (st' := [vI (-1), vI v3]) (dg dc107 64 rfl) rfl rfl ?_
          refine ex_icmp (t := 138) (dg dc107 65 rfl) rfl hf (fun _ hf => ?_) (fun _ hf => ?_)
          · refine ex_pu (ls' := [vR 158, j1, vI v2, vI v3, vI v4]) (st' := [vI v4]) (dg dc107 75 rfl) rfl rfl ?_
            refine ex_pu (ls' := [vR 158, j1, vI v2, vI v4, vI v4]) (st' := []) (dg dc107 76 rfl) rfl rfl ?_
            refine ex_pu (ls' := [vR 158, j1, vI v2, vI v4, vI (v4 + 1)]) (st' := []) (dg dc107 77 rfl) rfl rfl ?_
            refine ex_goto (t := 88) (dg dc107 78 rfl) rfl rfl ?_
            exact ih v4 (v4 + 1) M_16 _ hf
          · refine ex_pu (ls' := [vR 158, j1, vI v2, vI v3, vI v4]) (st' := [vR 158]) (dg dc107 66 rfl) rfl rfl ?_
            refine ex_getO (dg dc107 67 rfl) rfl (LOC.st (Nat.le_of_ble_eq_true rfl) rfl) rfl ?_
            show EX Z _ 107 _ [vR 158, j1, vI v2, vI v3, vI v4] [vR 159] _ _
            refine ex_pu (ls' := [vR 158, j1, vI v2, vI v3, vI v4]) (st' := [vI v4, vR 159]) (dg dc107 68 rfl) rfl rfl ?_
            refine ex_iald (dg dc107 69 rfl) (LOC.st (Nat.le_of_ble_eq_true rfl) rfl) rfl hf (fun _ hf => ?_)
            refine ex_pu (ls' := [vR 158, j1, vI v2, vI v3, vI v4]) (st' := [vR 158, vI (M_16 159 (v4).toNat)]) (dg dc107 70 rfl) rfl rfl ?_
            refine ex_getO (dg dc107 71 rfl) rfl (LOC.st (Nat.le_of_ble_eq_true rfl) rfl) rfl ?_
            show EX Z _ 107 _ [vR 158, j1, vI v2, vI v3, vI v4] [vR 159, vI (M_16 159 (v4).toNat)] _ _
            refine ex_pu (ls' := [vR 158, j1, vI v2, vI v3, vI v4]) (st' := [vI v3, vR 159, vI (M_16 159 (v4).toNat)]) (dg dc107 72 rfl) rfl rfl ?_
            refine ex_iald (dg dc107 73 rfl) (LOC.st (Nat.le_of_ble_eq_true rfl) rfl) rfl hf (fun _ hf => ?_)
            refine ex_icmp (t := 141) (dg dc107 74 rfl) rfl hf (fun _ hf => ?_) (fun _ hf => ?_)
            · refine ex_pu (ls' := [vR 158, j1, vI v2, vI v3, vI (v4 + 1)]) (st' := []) (dg dc107 77 rfl) rfl rfl ?_
              refine ex_goto (t := 88) (dg dc107 78 rfl) rfl rfl ?_
              exact ih v3 (v4 + 1) M_16 _ hf
            · refine ex_pu (ls' := [vR 158, j1, vI v2, vI v3, vI v4]) (st' := [vI v4]) (dg dc107 75 rfl) rfl rfl ?_
              refine ex_pu (ls' := [vR 158, j1, vI v2, vI v4, vI v4]) (st' := []) (dg dc107 76 rfl) rfl rfl ?_
              refine ex_pu (ls' := [vR 158, j1, vI v2, vI v4, vI (v4 + 1)]) (st' := []) (dg dc107 77 rfl) rfl rfl ?_
              refine ex_goto (t := 88) (dg dc107 78 rfl) rfl rfl ?_
              exact ih v4 (v4 + 1) M_16 _ hf
def ways_placeFoundFirst_J83   (v2 : Int) (M : MM) : OR :=
  (ways_placeFoundFirst_L88 v2 (fun v3_18 M_19 => some (rI v3_18, M_19)) FU (-1) 0 M)
set_option maxRecDepth 4000 in
theorem ways_placeFoundFirst_J83_ok {Z : Nat × (Nat → Int)} {d : Nat} (hd : 2 ≤ d)   {res : AR × MM}  : ∀ (v2 : Int) (M : MM) (j1 j3 j4 : AV), ways_placeFoundFirst_J83   v2 M = some res → EX Z d 107 83 [vR 158, j1, vI v2, j3, j4] [] M res := by
  obtain ⟨e9, rfl⟩ : ∃ e9, d = e9 + 1 := ⟨d - 1, by omega⟩
  intro v2 M j1 j3 j4 hf
  unfold ways_placeFoundFirst_J83 at hf
  refine ex_pu (ls' := [vR 158, j1, vI v2, j3, j4]) (st' := [vI (-1)]) (dg dc107 46 rfl) rfl rfl ?_
  refine ex_pu (ls' := [vR 158, j1, vI v2, vI (-1), j4]) (st' := []) (dg dc107 47 rfl) rfl rfl ?_
  refine ex_pu (ls' := [vR 158, j1, vI v2, vI (-1), j4]) (st' := [vI 0]) (dg dc107 48 rfl) rfl rfl ?_
  refine ex_pu (ls' := [vR 158, j1, vI v2, vI (-1), vI 0]) (st' := []) (dg dc107 49 rfl) rfl rfl ?_
  refine ways_placeFoundFirst_L88_ok hd  ?_ FU (-1) 0 M _ hf
  · intro v3_18 M_19 j0_20 j1_21 j2_22 j4_23 hf
    refine ex_pu (ls' := [j0_20, j1_21, j2_22, vI v3_18, j4_23]) (st' := [vI v3_18]) (dg dc107 79 rfl) rfl rfl ?_
    exact ex_ire (dg dc107 80 rfl) rfl hf
def ways_placeFoundFirst (v1 : Int) (M : MM) : OR :=
  (bif inB v1 7 then (bV (ways_measure (M 14 (v1).toNat) 159 M) fun M_2 => (ways_placeFoundFirst_L31 v1 (fun v2_10 M_11 => (ways_placeFoundFirst_J83   v2_10 M_11)) FU ((iShl 1 (M_2 3 0)) - 1) 0 M_2)) else none)
set_option maxRecDepth 4000 in
theorem ways_placeFoundFirst_ok {Z : Nat × (Nat → Int)} {d : Nat} (hd : 2 ≤ d) {M : MM}  {v1 : Int} {res : AR × MM} (hf : ways_placeFoundFirst v1 M = some res) : EX Z d 107 0 (ent 107 [vR 158, vI v1]) [] M res := by
  obtain ⟨e9, rfl⟩ : ∃ e9, d = e9 + 1 := ⟨d - 1, by omega⟩
  unfold ways_placeFoundFirst at hf
  show EX Z _ 107 0 [vR 158, vI v1, vU, vU, vU] [] M res
  refine ex_pu (ls' := [vR 158, vI v1, vU, vU, vU]) (st' := [vR 158]) (dg dc107 0 rfl) rfl rfl ?_
  refine ex_pu (ls' := [vR 158, vI v1, vU, vU, vU]) (st' := [vR 158, vR 158]) (dg dc107 1 rfl) rfl rfl ?_
  refine ex_getF (dg dc107 2 rfl) rfl (LOC.st (Nat.le_of_ble_eq_true rfl) rfl) rfl ?_
  refine ex_getO (dg dc107 3 rfl) rfl (LOC.st (Nat.le_of_ble_eq_true rfl) rfl) rfl ?_
  show EX Z _ 107 _ [vR 158, vI v1, vU, vU, vU] [vR 14, vR 158] _ _
  refine ex_pu (ls' := [vR 158, vI v1, vU, vU, vU]) (st' := [vI v1, vR 14, vR 158]) (dg dc107 4 rfl) rfl rfl ?_
  refine ex_iald (dg dc107 5 rfl) (LOC.st (Nat.le_of_ble_eq_true rfl) rfl) rfl hf (fun _ hf => ?_)
  refine ex_pu (ls' := [vR 158, vI v1, vU, vU, vU]) (st' := [vR 158, vI (M 14 (v1).toNat), vR 158]) (dg dc107 6 rfl) rfl rfl ?_
  refine ex_getO (dg dc107 7 rfl) rfl (LOC.st (Nat.le_of_ble_eq_true rfl) rfl) rfl ?_
  show EX Z _ 107 _ [vR 158, vI v1, vU, vU, vU] [vR 159, vI (M 14 (v1).toNat), vR 158] _ _
  refine ex_cV (vs := [vR 158, vI (M 14 (v1).toNat), vR 159]) (st' := []) (F := (ways_measure (M 14 (v1).toNat) 159 M)) (Or.inr (Or.inl ⟨rfl, (dg dc107 8 rfl)⟩)) rfl rfl (rk1 (LOC.st (Nat.le_of_ble_eq_true rfl) rfl) rfl) rfl (fun _ r9 => ways_measure_ok (Z := Z) (d := e9) (by omega) isRow159  r9) hf (fun M_2 he_1 hf => ?_)
  refine ex_pu (ls' := [vR 158, vI v1, vU, vU, vU]) (st' := [vI 1]) (dg dc107 9 rfl) rfl rfl ?_
  refine ex_pu (ls' := [vR 158, vI v1, vU, vU, vU]) (st' := [vR 158, vI 1]) (dg dc107 10 rfl) rfl rfl ?_
  refine ex_getF (dg dc107 11 rfl) rfl (LOC.st (Nat.le_of_ble_eq_true rfl) rfl) rfl ?_
  refine ex_getI (dg dc107 12 rfl) rfl (LOC.st (Nat.le_of_ble_eq_true rfl) rfl) rfl ?_
  refine ex_pu (ls' := [vR 158, vI v1, vU, vU, vU]) (st' := [vI (iShl 1 (M_2 3 0))]) (dg dc107 13 rfl) rfl rfl ?_
  refine ex_pu (ls' := [vR 158, vI v1, vU, vU, vU]) (st' := [vI 1, vI (iShl 1 (M_2 3 0))]) (dg dc107 14 rfl) rfl rfl ?_
  refine ex_pu (ls' := [vR 158, vI v1, vU, vU, vU]) (st' := [vI ((iShl 1 (M_2 3 0)) - 1)]) (dg dc107 15 rfl) rfl rfl ?_
  refine ex_pu (ls' := [vR 158, vI v1, vI ((iShl 1 (M_2 3 0)) - 1), vU, vU]) (st' := []) (dg dc107 16 rfl) rfl rfl ?_
  refine ex_pu (ls' := [vR 158, vI v1, vI ((iShl 1 (M_2 3 0)) - 1), vU, vU]) (st' := [vI 0]) (dg dc107 17 rfl) rfl rfl ?_
  refine ex_pu (ls' := [vR 158, vI v1, vI ((iShl 1 (M_2 3 0)) - 1), vI 0, vU]) (st' := []) (dg dc107 18 rfl) rfl rfl ?_
  refine ways_placeFoundFirst_L31_ok hd  ?_ FU ((iShl 1 (M_2 3 0)) - 1) 0 M_2 _ hf
  · intro v2_10 M_11 j1_12 j3_13 j4_14 hf
    exact ways_placeFoundFirst_J83_ok hd   v2_10 M_11 _ _ _ hf
-- GlassHill.giftStillHad
def il116 : List (Nat × Instr × Nat) := [(0, .aload_n 0, 1), (1, .getfield 19, 3), (4, .iload_n 1, 1), (5, .invokevirtual 167, 3), (8, .ifCond .eq 15, 3), (11, .aload_n 0, 1), (12, .getfield 19, 3), (15, .getfield 206, 3), (18, .iload_n 1, 1), (19, .iaload, 1), (20, .goto 4, 3), (23, .iconst (-1), 1), (24, .istore_n 2, 1), (25, .iload_n 2, 1), (26, .iconst (-1), 1), (27, .if_icmp .eq 22, 3), (30, .aload_n 0, 1), (31, .getfield 33, 3), (34, .getfield 209, 3), (37, .iload_n 2, 1), (38, .invokestatic 187, 3), (41, .iconst 1, 1), (42, .if_icmp .ne 7, 3), (45, .iload_n 2, 1), (46, .goto 4, 3), (49, .iconst (-1), 1), (50, .ireturn, 1)]
theorem dc116 : dcs (mC 116) il116 := dc_of (by decide +kernel)
def gh_giftStillHad (v1 : Int) (M : MM) : OR :=
  (bI (land_hasKeeper 3 v1 M) fun z_3 M_2 => (bif cmpB .eq z_3 0 then (bif cmpB .eq (-1) (-1) then some (rI (-1), M_2) else (bI (gh_bit (M_2 23 5) (-1) M_2) fun z_6 M_5 => (bif cmpB .ne z_6 1 then some (rI (-1), M_5) else some (rI (-1), M_5)))) else (bif inB v1 10 then (bif cmpB .eq (M_2 8 (v1).toNat) (-1) then some (rI (-1), M_2) else (bI (gh_bit (M_2 23 5) (M_2 8 (v1).toNat) M_2) fun z_9 M_8 => (bif cmpB .ne z_9 1 then some (rI (-1), M_8) else some (rI (M_2 8 (v1).toNat), M_8)))) else none)))
set_option maxRecDepth 4000 in
theorem gh_giftStillHad_ok {Z : Nat × (Nat → Int)} {d : Nat} (hd : 2 ≤ d) {M : MM}  {v1 : Int} {res : AR × MM} (hf : gh_giftStillHad v1 M = some res) : EX Z d 116 0 (ent 116 [vR 0, vI v1]) [] M res := by
  obtain ⟨e9, rfl⟩ : ∃ e9, d = e9 + 1 := ⟨d - 1, by omega⟩
  unfold gh_giftStillHad at hf
  show EX Z _ 116 0 [vR 0, vI v1, vU] [] M res
  refine ex_pu (ls' := [vR 0, vI v1, vU]) (st' := [vR 0]) (dg dc116 0 rfl) rfl rfl ?_
  refine ex_getF (dg dc116 1 rfl) rfl (LOC.st (Nat.le_of_ble_eq_true rfl) rfl) rfl ?_
  refine ex_pu (ls' := [vR 0, vI v1, vU]) (st' := [vI v1, vR 3]) (dg dc116 2 rfl) rfl rfl ?_
  refine ex_cI (vs := [vR 3, vI v1]) (st' := []) (F := (land_hasKeeper 3 v1 M)) (Or.inr (Or.inl ⟨rfl, (dg dc116 3 rfl)⟩)) rfl rfl (rk1 (LOC.st (Nat.le_of_ble_eq_true rfl) rfl) rfl) rfl (fun _ r9 => land_hasKeeper_ok (Z := Z) (d := e9) (by omega) isLand3  r9) hf (fun z_3 M_2 he_1 hf => ?_)
  refine ex_if (t := 23) (dg dc116 4 rfl) rfl hf (fun _ hf => ?_) (fun _ hf => ?_)
  · refine ex_pu (ls' := [vR 0, vI v1, vU]) (st' := [vI (-1)]) (dg dc116 11 rfl) rfl rfl ?_
    refine ex_pu (ls' := [vR 0, vI v1, vI (-1)]) (st' := []) (dg dc116 12 rfl) rfl rfl ?_
    refine ex_pu (ls' := [vR 0, vI v1, vI (-1)]) (st' := [vI (-1)]) (dg dc116 13 rfl) rfl rfl ?_
    refine ex_pu (ls' := [vR 0, vI v1, vI (-1)]) (st' := [vI (-1), vI (-1)]) (dg dc116 14 rfl) rfl rfl ?_
    refine ex_icmp (t := 49) (dg dc116 15 rfl) rfl hf (fun _ hf => ?_) (fun _ hf => ?_)
    · refine ex_pu (ls' := [vR 0, vI v1, vI (-1)]) (st' := [vI (-1)]) (dg dc116 25 rfl) rfl rfl ?_
      exact ex_ire (dg dc116 26 rfl) rfl hf
    · refine ex_pu (ls' := [vR 0, vI v1, vI (-1)]) (st' := [vR 0]) (dg dc116 16 rfl) rfl rfl ?_
      refine ex_getF (dg dc116 17 rfl) rfl (LOC.st (Nat.le_of_ble_eq_true rfl) rfl) rfl ?_
      refine ex_getI (dg dc116 18 rfl) rfl (LOC.st (Nat.le_of_ble_eq_true rfl) rfl) rfl ?_
      refine ex_pu (ls' := [vR 0, vI v1, vI (-1)]) (st' := [vI (-1), vI (M_2 23 5)]) (dg dc116 19 rfl) rfl rfl ?_
      refine ex_cI (vs := [vI (M_2 23 5), vI (-1)]) (st' := []) (F := (gh_bit (M_2 23 5) (-1) M_2)) (Or.inl ⟨rfl, (dg dc116 20 rfl)⟩) rfl rfl (Or.inl rfl) rfl (fun _ r9 => gh_bit_ok (Z := Z) (d := e9) (by omega)  r9) hf (fun z_6 M_5 he_4 hf => ?_)
      refine ex_pu (ls' := [vR 0, vI v1, vI (-1)]) (st' := [vI 1, vI z_6]) (dg dc116 21 rfl) rfl rfl ?_
      refine ex_icmp (t := 49) (dg dc116 22 rfl) rfl hf (fun _ hf => ?_) (fun _ hf => ?_)
      · refine ex_pu (ls' := [vR 0, vI v1, vI (-1)]) (st' := [vI (-1)]) (dg dc116 25 rfl) rfl rfl ?_
        exact ex_ire (dg dc116 26 rfl) rfl hf
      · refine ex_pu (ls' := [vR 0, vI v1, vI (-1)]) (st' := [vI (-1)]) (dg dc116 23 rfl) rfl rfl ?_
        refine ex_goto (t := 50) (dg dc116 24 rfl) rfl rfl ?_
        exact ex_ire (dg dc116 26 rfl) rfl hf
  · refine ex_pu (ls' := [vR 0, vI v1, vU]) (st' := [vR 0]) (dg dc116 5 rfl) rfl rfl ?_
    refine ex_getF (dg dc116 6 rfl) rfl (LOC.st (Nat.le_of_ble_eq_true rfl) rfl) rfl ?_
    refine ex_getO (dg dc116 7 rfl) rfl (LOC.st (Nat.le_of_ble_eq_true rfl) rfl) rfl ?_
    show EX Z _ 116 _ [vR 0, vI v1, vU] [vR 8] _ _
    refine ex_pu (ls' := [vR 0, vI v1, vU]) (st' := [vI v1, vR 8]) (dg dc116 8 rfl) rfl rfl ?_
    refine ex_iald (dg dc116 9 rfl) (LOC.st (Nat.le_of_ble_eq_true rfl) rfl) rfl hf (fun _ hf => ?_)
    refine ex_goto (t := 24) (dg dc116 10 rfl) rfl rfl ?_
    refine ex_pu (ls' := [vR 0, vI v1, vI (M_2 8 (v1).toNat)]) (st' := []) (dg dc116 12 rfl) rfl rfl ?_
    refine ex_pu (ls' := [vR 0, vI v1, vI (M_2 8 (v1).toNat)]) (st' := [vI (M_2 8 (v1).toNat)]) (dg dc116 13 rfl) rfl rfl ?_
    refine ex_pu (ls' := [vR 0, vI v1, vI (M_2 8 (v1).toNat)]) (st' := [vI (-1), vI (M_2 8 (v1).toNat)]) (dg dc116 14 rfl) rfl rfl ?_
    refine ex_icmp (t := 49) (dg dc116 15 rfl) rfl hf (fun _ hf => ?_) (fun _ hf => ?_)
    · refine ex_pu (ls' := [vR 0, vI v1, vI (M_2 8 (v1).toNat)]) (st' := [vI (-1)]) (dg dc116 25 rfl) rfl rfl ?_
      exact ex_ire (dg dc116 26 rfl) rfl hf
    · refine ex_pu (ls' := [vR 0, vI v1, vI (M_2 8 (v1).toNat)]) (st' := [vR 0]) (dg dc116 16 rfl) rfl rfl ?_
      refine ex_getF (dg dc116 17 rfl) rfl (LOC.st (Nat.le_of_ble_eq_true rfl) rfl) rfl ?_
      refine ex_getI (dg dc116 18 rfl) rfl (LOC.st (Nat.le_of_ble_eq_true rfl) rfl) rfl ?_
      refine ex_pu (ls' := [vR 0, vI v1, vI (M_2 8 (v1).toNat)]) (st' := [vI (M_2 8 (v1).toNat), vI (M_2 23 5)]) (dg dc116 19 rfl) rfl rfl ?_
      refine ex_cI (vs := [vI (M_2 23 5), vI (M_2 8 (v1).toNat)]) (st' := []) (F := (gh_bit (M_2 23 5) (M_2 8 (v1).toNat) M_2)) (Or.inl ⟨rfl, (dg dc116 20 rfl)⟩) rfl rfl (Or.inl rfl) rfl (fun _ r9 => gh_bit_ok (Z := Z) (d := e9) (by omega)  r9) hf (fun z_9 M_8 he_7 hf => ?_)
      refine ex_pu (ls' := [vR 0, vI v1, vI (M_2 8 (v1).toNat)]) (st' := [vI 1, vI z_9]) (dg dc116 21 rfl) rfl rfl ?_
      refine ex_icmp (t := 49) (dg dc116 22 rfl) rfl hf (fun _ hf => ?_) (fun _ hf => ?_)
      · refine ex_pu (ls' := [vR 0, vI v1, vI (M_2 8 (v1).toNat)]) (st' := [vI (-1)]) (dg dc116 25 rfl) rfl rfl ?_
        exact ex_ire (dg dc116 26 rfl) rfl hf
      · refine ex_pu (ls' := [vR 0, vI v1, vI (M_2 8 (v1).toNat)]) (st' := [vI (M_2 8 (v1).toNat)]) (dg dc116 23 rfl) rfl rfl ?_
        refine ex_goto (t := 50) (dg dc116 24 rfl) rfl rfl ?_
        exact ex_ire (dg dc116 26 rfl) rfl hf
-- GlassHill.thing
def il117 : List (Nat × Instr × Nat) := [(0, .aload_n 0, 1), (1, .iload_n 1, 1), (2, .invokevirtual 212, 3), (5, .iload_n 2, 1), (6, .tableswitch 85 0 3 #[30, 40, 50, 59], 30), (36, .aload_n 0, 1), (37, .getfield 19, 3), (40, .getfield 215, 3), (43, .iload_n 1, 1), (44, .iaload, 1), (45, .ireturn, 1), (46, .aload_n 0, 1), (47, .getfield 19, 3), (50, .getfield 218, 3), (53, .iload_n 1, 1), (54, .iaload, 1), (55, .ireturn, 1), (56, .aload_n 0, 1), (57, .getfield 33, 3), (60, .iload_n 1, 1), (61, .invokevirtual 221, 3), (64, .ireturn, 1), (65, .aload_n 0, 1), (66, .getfield 33, 3), (69, .iload_n 1, 1), (70, .invokevirtual 221, 3), (73, .iconst 1, 1), (74, .if_icmp .gt 15, 3), (77, .aload_n 0, 1), (78, .getfield 33, 3), (81, .getfield 224, 3), (84, .iload_n 1, 1), (85, .iaload, 1), (86, .goto 4, 3), (89, .iconst (-1), 1), (90, .ireturn, 1), (91, .new 201, 3), (94, .dup, 1), (95, .ldc 203, 2), (97, .invokespecial 205, 3), (100, .athrow, 1)]
theorem dc117 : dcs (mC 117) il117 := dc_of (by decide +kernel)
def gh_thing (v1 : Int) (v2 : Int) (M : MM) : OR :=
  (bV (gh_checkThing v1 M) fun M_2 => (bif cmpB .eq v2 0 then (bif inB v1 10 then some (rI (M_2 9 (v1).toNat), M_2) else none) else (bif cmpB .eq v2 1 then (bif inB v1 10 then some (rI (M_2 10 (v1).toNat), M_2) else none) else (bif cmpB .eq v2 2 then (bI (jny_lot 23 v1 M_2) fun z_9 M_8 => some (rI z_9, M_8)) else (bif cmpB .eq v2 3 then (bI (jny_lot 23 v1 M_2) fun z_13 M_12 => (bif cmpB .gt z_13 1 then some (rI (-1), M_12) else (bif inB v1 10 then some (rI (M_12 24 (v1).toNat), M_12) else none))) else thx 16 M_2)))))
set_option maxRecDepth 4000 in
theorem gh_thing_ok {Z : Nat × (Nat → Int)} {d : Nat} (hd : 2 ≤ d) {M : MM}  {v1 v2 : Int} {res : AR × MM} (hf : gh_thing v1 v2 M = some res) : EX Z d 117 0 (ent 117 [vR 0, vI v1, vI v2]) [] M res := by
  obtain ⟨e9, rfl⟩ : ∃ e9, d = e9 + 1 := ⟨d - 1, by omega⟩
  unfold gh_thing at hf
  show EX Z _ 117 0 [vR 0, vI v1, vI v2] [] M res
  refine ex_pu (ls' := [vR 0, vI v1, vI v2]) (st' := [vR 0]) (dg dc117 0 rfl) rfl rfl ?_
  refine ex_pu (ls' := [vR 0, vI v1, vI v2]) (st' := [vI v1, vR 0]) (dg dc117 1 rfl) rfl rfl ?_
  refine ex_cV (vs := [vR 0, vI v1]) (st' := []) (F := (gh_checkThing v1 M)) (Or.inr (Or.inl ⟨rfl, (dg dc117 2 rfl)⟩)) rfl rfl (rk1 (LOC.st (Nat.le_of_ble_eq_true rfl) rfl) rfl) rfl (fun _ r9 => gh_checkThing_ok (Z := Z) (d := e9) (by omega)  r9) hf (fun M_2 he_1 hf => ?_)
  refine ex_pu (ls' := [vR 0, vI v1, vI v2]) (st' := [vI v2]) (dg dc117 3 rfl) rfl rfl ?_
  refine ex_bif hf (fun hc_4 hf => ?_) (fun hc_4 hf => ?_)
  · refine ex_tsw (t := 36) (dg dc117 4 rfl) hc_4 (by decide +kernel) rfl ⟨by decide, by decide, by decide⟩ rfl ?_
    refine ex_pu (ls' := [vR 0, vI v1, vI v2]) (st' := [vR 0]) (dg dc117 5 rfl) rfl rfl ?_
    refine ex_getF (dg dc117 6 rfl) rfl (LOC.st (Nat.le_of_ble_eq_true rfl) rfl) rfl ?_
    refine ex_getO (dg dc117 7 rfl) rfl (LOC.st (Nat.le_of_ble_eq_true rfl) rfl) rfl ?_
    show EX Z _ 117 _ [vR 0, vI v1, vI v2] [vR 9] _ _
    refine ex_pu (ls' := [vR 0, vI v1, vI v2]) (st' := [vI v1, vR 9]) (dg dc117 8 rfl) rfl rfl ?_
    refine ex_iald (dg dc117 9 rfl) (LOC.st (Nat.le_of_ble_eq_true rfl) rfl) rfl hf (fun _ hf => ?_)
    exact ex_ire (dg dc117 10 rfl) rfl hf
  ·
    refine ex_bif hf (fun hc_5 hf => ?_) (fun hc_5 hf => ?_)
    · refine ex_tsw (t := 46) (dg dc117 4 rfl) hc_5 (by decide +kernel) rfl ⟨by decide, by decide, by decide⟩ rfl ?_
      refine ex_pu (ls' := [vR 0, vI v1, vI v2]) (st' := [vR 0]) (dg dc117 11 rfl) rfl rfl ?_
      refine ex_getF (dg dc117 12 rfl) rfl (LOC.st (Nat.le_of_ble_eq_true rfl) rfl) rfl ?_
      refine ex_getO (dg dc117 13 rfl) rfl (LOC.st (Nat.le_of_ble_eq_true rfl) rfl) rfl ?_
      show EX Z _ 117 _ [vR 0, vI v1, vI v2] [vR 10] _ _
      refine ex_pu (ls' := [vR 0, vI v1, vI v2]) (st' := [vI v1, vR 10]) (dg dc117 14 rfl) rfl rfl ?_
      refine ex_iald (dg dc117 15 rfl) (LOC.st (Nat.le_of_ble_eq_true rfl) rfl) rfl hf (fun _ hf => ?_)
      exact ex_ire (dg dc117 16 rfl) rfl hf
    ·
      refine ex_bif hf (fun hc_6 hf => ?_) (fun hc_6 hf => ?_)
      · refine ex_tsw (t := 56) (dg dc117 4 rfl) hc_6 (by decide +kernel) rfl ⟨by decide, by decide, by decide⟩ rfl ?_
        refine ex_pu (ls' := [vR 0, vI v1, vI v2]) (st' := [vR 0]) (dg dc117 17 rfl) rfl rfl ?_
        refine ex_getF (dg dc117 18 rfl) rfl (LOC.st (Nat.le_of_ble_eq_true rfl) rfl) rfl ?_
        refine ex_pu (ls' := [vR 0, vI v1, vI v2]) (st' := [vI v1, vR 23]) (dg dc117 19 rfl) rfl rfl ?_
        refine ex_cI (vs := [vR 23, vI v1]) (st' := []) (F := (jny_lot 23 v1 M_2)) (Or.inr (Or.inl ⟨rfl, (dg dc117 20 rfl)⟩)) rfl rfl (rk1 (LOC.st (Nat.le_of_ble_eq_true rfl) rfl) rfl) rfl (fun _ r9 => jny_lot_ok (Z := Z) (d := e9) (by omega) isJny23  r9) hf (fun z_9 M_8 he_7 hf => ?_)
        exact ex_ire (dg dc117 21 rfl) rfl hf
      ·
        refine ex_bif hf (fun hc_10 hf => ?_) (fun hc_10 hf => ?_)
        · refine ex_tsw (t := 65) (dg dc117 4 rfl) hc_10 (by decide +kernel) rfl ⟨by decide, by decide, by decide⟩ rfl ?_
          refine ex_pu (ls' := [vR 0, vI v1, vI v2]) (st' := [vR 0]) (dg dc117 22 rfl) rfl rfl ?_
          refine ex_getF (dg dc117 23 rfl) rfl (LOC.st (Nat.le_of_ble_eq_true rfl) rfl) rfl ?_
          refine ex_pu (ls' := [vR 0, vI v1, vI v2]) (st' := [vI v1, vR 23]) (dg dc117 24 rfl) rfl rfl ?_
          refine ex_cI (vs := [vR 23, vI v1]) (st' := []) (F := (jny_lot 23 v1 M_2)) (Or.inr (Or.inl ⟨rfl, (dg dc117 25 rfl)⟩)) rfl rfl (rk1 (LOC.st (Nat.le_of_ble_eq_true rfl) rfl) rfl) rfl (fun _ r9 => jny_lot_ok (Z := Z) (d := e9) (by omega) isJny23  r9) hf (fun z_13 M_12 he_11 hf => ?_)
          refine ex_pu (ls' := [vR 0, vI v1, vI v2]) (st' := [vI 1, vI z_13]) (dg dc117 26 rfl) rfl rfl ?_
          refine ex_icmp (t := 89) (dg dc117 27 rfl) rfl hf (fun _ hf => ?_) (fun _ hf => ?_)
          · refine ex_pu (ls' := [vR 0, vI v1, vI v2]) (st' := [vI (-1)]) (dg dc117 34 rfl) rfl rfl ?_
            exact ex_ire (dg dc117 35 rfl) rfl hf
          · refine ex_pu (ls' := [vR 0, vI v1, vI v2]) (st' := [vR 0]) (dg dc117 28 rfl) rfl rfl ?_
            refine ex_getF (dg dc117 29 rfl) rfl (LOC.st (Nat.le_of_ble_eq_true rfl) rfl) rfl ?_
            refine ex_getO (dg dc117 30 rfl) rfl (LOC.st (Nat.le_of_ble_eq_true rfl) rfl) rfl ?_
            show EX Z _ 117 _ [vR 0, vI v1, vI v2] [vR 24] _ _
            refine ex_pu (ls' := [vR 0, vI v1, vI v2]) (st' := [vI v1, vR 24]) (dg dc117 31 rfl) rfl rfl ?_
            refine ex_iald (dg dc117 32 rfl) (LOC.st (Nat.le_of_ble_eq_true rfl) rfl) rfl hf (fun _ hf => ?_)
            refine ex_goto (t := 90) (dg dc117 33 rfl) rfl rfl ?_
            exact ex_ire (dg dc117 35 rfl) rfl hf
        · refine ex_tsd (t := 91) (dg dc117 4 rfl) (sw_out (lo := 0) (hi := 3) (fun j h1 h2 => by have hj : j = 0 ∨ j = 1 ∨ j = 2 ∨ j = 3 := (by omega); rcases hj with rfl | rfl | rfl | rfl <;> first | exact ⟨hc_4, by decide +kernel⟩ | exact ⟨hc_5, by decide +kernel⟩ | exact ⟨hc_6, by decide +kernel⟩ | exact ⟨hc_10, by decide +kernel⟩)) rfl ?_
          exact ex_thr (ci := 16) (is := 203) (ic := 205) (ln := 9) (dg dc117 36 rfl) rfl (exN_of rfl (dg dc117 37 rfl) (dg dc117 38 rfl) (dg dc117 39 rfl) rfl rfl rfl) (dg dc117 40 rfl) rfl ⟨by decide, by decide⟩ hf
-- GlassHill.road
def il118 : List (Nat × Instr × Nat) := [(0, .aload_n 0, 1), (1, .iload_n 1, 1), (2, .invokevirtual 227, 3), (5, .iload_n 2, 1), (6, .tableswitch 76 0 3 #[30, 42, 56, 66], 30), (36, .aload_n 0, 1), (37, .getfield 19, 3), (40, .getfield 230, 3), (43, .iconst 2, 1), (44, .iload_n 1, 1), (45, .imul, 1), (46, .iaload, 1), (47, .ireturn, 1), (48, .aload_n 0, 1), (49, .getfield 19, 3), (52, .getfield 230, 3), (55, .iconst 2, 1), (56, .iload_n 1, 1), (57, .imul, 1), (58, .iconst 1, 1), (59, .iadd, 1), (60, .iaload, 1), (61, .ireturn, 1), (62, .aload_n 0, 1), (63, .getfield 19, 3), (66, .getfield 233, 3), (69, .iload_n 1, 1), (70, .iaload, 1), (71, .ireturn, 1), (72, .aload_n 0, 1), (73, .getfield 19, 3), (76, .getfield 236, 3), (79, .iload_n 1, 1), (80, .iaload, 1), (81, .ireturn, 1), (82, .new 201, 3), (85, .dup, 1), (86, .ldc 203, 2), (88, .invokespecial 205, 3), (91, .athrow, 1)]
theorem dc118 : dcs (mC 118) il118 := dc_of (by decide +kernel)
def gh_road (v1 : Int) (v2 : Int) (M : MM) : OR :=
  (bV (gh_checkRoad v1 M) fun M_2 => (bif cmpB .eq v2 0 then (bif inB (2 * v1) 32 then some (rI (M_2 11 ((2 * v1)).toNat), M_2) else none) else (bif cmpB .eq v2 1 then (bif inB ((2 * v1) + 1) 32 then some (rI (M_2 11 (((2 * v1) + 1)).toNat), M_2) else none) else (bif cmpB .eq v2 2 then (bif inB v1 16 then some (rI (M_2 12 (v1).toNat), M_2) else none) else (bif cmpB .eq v2 3 then (bif inB v1 16 then some (rI (M_2 13 (v1).toNat), M_2) else none) else thx 16 M_2)))))
set_option maxRecDepth 4000 in
theorem gh_road_ok {Z : Nat × (Nat → Int)} {d : Nat} (hd : 1 ≤ d) {M : MM}  {v1 v2 : Int} {res : AR × MM} (hf : gh_road v1 v2 M = some res) : EX Z d 118 0 (ent 118 [vR 0, vI v1, vI v2]) [] M res := by
  obtain ⟨e9, rfl⟩ : ∃ e9, d = e9 + 1 := ⟨d - 1, by omega⟩
  unfold gh_road at hf
  show EX Z _ 118 0 [vR 0, vI v1, vI v2] [] M res
  refine ex_pu (ls' := [vR 0, vI v1, vI v2]) (st' := [vR 0]) (dg dc118 0 rfl) rfl rfl ?_
  refine ex_pu (ls' := [vR 0, vI v1, vI v2]) (st' := [vI v1, vR 0]) (dg dc118 1 rfl) rfl rfl ?_
  refine ex_cV (vs := [vR 0, vI v1]) (st' := []) (F := (gh_checkRoad v1 M)) (Or.inr (Or.inl ⟨rfl, (dg dc118 2 rfl)⟩)) rfl rfl (rk1 (LOC.st (Nat.le_of_ble_eq_true rfl) rfl) rfl) rfl (fun _ r9 => gh_checkRoad_ok (Z := Z) (d := e9) (by omega)  r9) hf (fun M_2 he_1 hf => ?_)
  refine ex_pu (ls' := [vR 0, vI v1, vI v2]) (st' := [vI v2]) (dg dc118 3 rfl) rfl rfl ?_
  refine ex_bif hf (fun hc_4 hf => ?_) (fun hc_4 hf => ?_)
  · refine ex_tsw (t := 36) (dg dc118 4 rfl) hc_4 (by decide +kernel) rfl ⟨by decide, by decide, by decide⟩ rfl ?_
    refine ex_pu (ls' := [vR 0, vI v1, vI v2]) (st' := [vR 0]) (dg dc118 5 rfl) rfl rfl ?_
    refine ex_getF (dg dc118 6 rfl) rfl (LOC.st (Nat.le_of_ble_eq_true rfl) rfl) rfl ?_
    refine ex_getO (dg dc118 7 rfl) rfl (LOC.st (Nat.le_of_ble_eq_true rfl) rfl) rfl ?_
    show EX Z _ 118 _ [vR 0, vI v1, vI v2] [vR 11] _ _
    refine ex_pu (ls' := [vR 0, vI v1, vI v2]) (st' := [vI 2, vR 11]) (dg dc118 8 rfl) rfl rfl ?_
    refine ex_pu (ls' := [vR 0, vI v1, vI v2]) (st' := [vI v1, vI 2, vR 11]) (dg dc118 9 rfl) rfl rfl ?_
    refine ex_pu (ls' := [vR 0, vI v1, vI v2]) (st' := [vI (2 * v1), vR 11]) (dg dc118 10 rfl) rfl rfl ?_
    refine ex_iald (dg dc118 11 rfl) (LOC.st (Nat.le_of_ble_eq_true rfl) rfl) rfl hf (fun _ hf => ?_)
    exact ex_ire (dg dc118 12 rfl) rfl hf
  ·
    refine ex_bif hf (fun hc_5 hf => ?_) (fun hc_5 hf => ?_)
    · refine ex_tsw (t := 48) (dg dc118 4 rfl) hc_5 (by decide +kernel) rfl ⟨by decide, by decide, by decide⟩ rfl ?_
      refine ex_pu (ls' := [vR 0, vI v1, vI v2]) (st' := [vR 0]) (dg dc118 13 rfl) rfl rfl ?_
      refine ex_getF (dg dc118 14 rfl) rfl (LOC.st (Nat.le_of_ble_eq_true rfl) rfl) rfl ?_
      refine ex_getO (dg dc118 15 rfl) rfl (LOC.st (Nat.le_of_ble_eq_true rfl) rfl) rfl ?_
      show EX Z _ 118 _ [vR 0, vI v1, vI v2] [vR 11] _ _
      refine ex_pu (ls' := [vR 0, vI v1, vI v2]) (st' := [vI 2, vR 11]) (dg dc118 16 rfl) rfl rfl ?_
      refine ex_pu (ls' := [vR 0, vI v1, vI v2]) (st' := [vI v1, vI 2, vR 11]) (dg dc118 17 rfl) rfl rfl ?_
      refine ex_pu (ls' := [vR 0, vI v1, vI v2]) (st' := [vI (2 * v1), vR 11]) (dg dc118 18 rfl) rfl rfl ?_
      refine ex_pu (ls' := [vR 0, vI v1, vI v2]) (st' := [vI 1, vI (2 * v1), vR 11]) (dg dc118 19 rfl) rfl rfl ?_
      refine ex_pu (ls' := [vR 0, vI v1, vI v2]) (st' := [vI ((2 * v1) + 1), vR 11]) (dg dc118 20 rfl) rfl rfl ?_
      refine ex_iald (dg dc118 21 rfl) (LOC.st (Nat.le_of_ble_eq_true rfl) rfl) rfl hf (fun _ hf => ?_)
      exact ex_ire (dg dc118 22 rfl) rfl hf
    ·
      refine ex_bif hf (fun hc_6 hf => ?_) (fun hc_6 hf => ?_)
      · refine ex_tsw (t := 62) (dg dc118 4 rfl) hc_6 (by decide +kernel) rfl ⟨by decide, by decide, by decide⟩ rfl ?_
        refine ex_pu (ls' := [vR 0, vI v1, vI v2]) (st' := [vR 0]) (dg dc118 23 rfl) rfl rfl ?_
        refine ex_getF (dg dc118 24 rfl) rfl (LOC.st (Nat.le_of_ble_eq_true rfl) rfl) rfl ?_
        refine ex_getO (dg dc118 25 rfl) rfl (LOC.st (Nat.le_of_ble_eq_true rfl) rfl) rfl ?_
        show EX Z _ 118 _ [vR 0, vI v1, vI v2] [vR 12] _ _
        refine ex_pu (ls' := [vR 0, vI v1, vI v2]) (st' := [vI v1, vR 12]) (dg dc118 26 rfl) rfl rfl ?_
        refine ex_iald (dg dc118 27 rfl) (LOC.st (Nat.le_of_ble_eq_true rfl) rfl) rfl hf (fun _ hf => ?_)
        exact ex_ire (dg dc118 28 rfl) rfl hf
      ·
        refine ex_bif hf (fun hc_7 hf => ?_) (fun hc_7 hf => ?_)
        · refine ex_tsw (t := 72) (dg dc118 4 rfl) hc_7 (by decide +kernel) rfl ⟨by decide, by decide, by decide⟩ rfl ?_
          refine ex_pu (ls' := [vR 0, vI v1, vI v2]) (st' := [vR 0]) (dg dc118 29 rfl) rfl rfl ?_
          refine ex_getF (dg dc118 30 rfl) rfl (LOC.st (Nat.le_of_ble_eq_true rfl) rfl) rfl ?_
          refine ex_getO (dg dc118 31 rfl) rfl (LOC.st (Nat.le_of_ble_eq_true rfl) rfl) rfl ?_
          show EX Z _ 118 _ [vR 0, vI v1, vI v2] [vR 13] _ _
          refine ex_pu (ls' := [vR 0, vI v1, vI v2]) (st' := [vI v1, vR 13]) (dg dc118 32 rfl) rfl rfl ?_
          refine ex_iald (dg dc118 33 rfl) (LOC.st (Nat.le_of_ble_eq_true rfl) rfl) rfl hf (fun _ hf => ?_)
          exact ex_ire (dg dc118 34 rfl) rfl hf
        · refine ex_tsd (t := 82) (dg dc118 4 rfl) (sw_out (lo := 0) (hi := 3) (fun j h1 h2 => by have hj : j = 0 ∨ j = 1 ∨ j = 2 ∨ j = 3 := (by omega); rcases hj with rfl | rfl | rfl | rfl <;> first | exact ⟨hc_4, by decide +kernel⟩ | exact ⟨hc_5, by decide +kernel⟩ | exact ⟨hc_6, by decide +kernel⟩ | exact ⟨hc_7, by decide +kernel⟩)) rfl ?_
          exact ex_thr (ci := 16) (is := 203) (ic := 205) (ln := 9) (dg dc118 35 rfl) rfl (exN_of rfl (dg dc118 36 rfl) (dg dc118 37 rfl) (dg dc118 38 rfl) rfl rfl rfl) (dg dc118 39 rfl) rfl ⟨by decide, by decide⟩ hf
-- GlassHill.brother
def il119 : List (Nat × Instr × Nat) := [(0, .aload_n 0, 1), (1, .iload_n 1, 1), (2, .invokevirtual 239, 3), (5, .iload_n 2, 1), (6, .tableswitch 166 0 6 #[42, 52, 65, 78, 88, 98, 127], 42), (48, .aload_n 0, 1), (49, .getfield 19, 3), (52, .getfield 242, 3), (55, .iload_n 1, 1), (56, .iaload, 1), (57, .ireturn, 1), (58, .aload_n 0, 1), (59, .getfield 19, 3), (62, .getfield 171, 3), (65, .bipush 10, 2), (67, .iload_n 1, 1), (68, .iadd, 1), (69, .iaload, 1), (70, .ireturn, 1), (71, .aload_n 0, 1), (72, .getfield 19, 3), (75, .getfield 175, 3), (78, .bipush 10, 2), (80, .iload_n 1, 1), (81, .iadd, 1), (82, .iaload, 1), (83, .ireturn, 1), (84, .aload_n 0, 1), (85, .getfield 19, 3), (88, .getfield 245, 3), (91, .iload_n 1, 1), (92, .iaload, 1), (93, .ireturn, 1), (94, .aload_n 0, 1), (95, .getfield 19, 3), (98, .getfield 248, 3), (101, .iload_n 1, 1), (102, .iaload, 1), (103, .ireturn, 1), (104, .aload_n 0, 1), (105, .getfield 33, 3), (108, .getfield 251, 3), (111, .iload_n 1, 1), (112, .invokestatic 187, 3), (115, .iconst 1, 1), (116, .if_icmp .ne 15, 3), (119, .aload_n 0, 1), (120, .getfield 33, 3), (123, .getfield 254, 3), (126, .iload_n 1, 1), (127, .iaload, 1), (128, .goto 4, 3), (131, .iconst (-1), 1), (132, .ireturn, 1), (133, .aload_n 0, 1), (134, .getfield 33, 3), (137, .getfield 251, 3), (140, .iload_n 1, 1), (141, .invokestatic 187, 3), (144, .iconst 1, 1), (145, .if_icmp .ne 25, 3), (148, .aload_n 0, 1), (149, .getfield 33, 3), (152, .getfield 254, 3), (155, .iload_n 1, 1), (156, .iaload, 1), (157, .aload_n 0, 1), (158, .getfield 19, 3), (161, .getfield 245, 3), (164, .iload_n 1, 1), (165, .iaload, 1), (166, .iadd, 1), (167, .goto 4, 3), (170, .iconst (-1), 1), (171, .ireturn, 1), (172, .new 201, 3), (175, .dup, 1), (176, .ldc 203, 2), (178, .invokespecial 205, 3), (181, .athrow, 1)]
theorem dc119 : dcs (mC 119) il119 := dc_of (by decide +kernel)
def gh_brother (v1 : Int) (v2 : Int) (M : MM) : OR :=
  (bV (gh_checkBrother v1 M) fun M_2 => (bif cmpB .eq v2 0 then (bif inB v1 7 then some (rI (M_2 14 (v1).toNat), M_2) else none) else (bif cmpB .eq v2 1 then (bif inB (10 + v1) 17 then some (rI (M_2 4 ((10 + v1)).toNat), M_2) else none) else (bif cmpB .eq v2 2 then (bif inB (10 + v1) 17 then some (rI (M_2 5 ((10 + v1)).toNat), M_2) else none) else (bif cmpB .eq v2 3 then (bif inB v1 7 then some (rI (M_2 15 (v1).toNat), M_2) else none) else (bif cmpB .eq v2 4 then (bif inB v1 7 then some (rI (M_2 16 (v1).toNat), M_2) else none) else (bif cmpB .eq v2 5 then (bI (gh_bit (M_2 23 7) v1 M_2) fun z_12 M_11 => (bif cmpB .ne z_12 1 then some (rI (-1), M_11) else (bif inB v1 7 then some (rI (M_11 25 (v1).toNat), M_11) else none))) else (bif cmpB .eq v2 6 then (bI (gh_bit (M_2 23 7) v1 M_2) fun z_16 M_15 => (bif cmpB .ne z_16 1 then some (rI (-1), M_15) else (bif inB v1 7 then (bif inB v1 7 then some (rI ((M_15 25 (v1).toNat) + (M_15 15 (v1).toNat)), M_15) else none) else none))) else thx 16 M_2))))))))
set_option maxRecDepth 4000 in
theorem gh_brother_ok {Z : Nat × (Nat → Int)} {d : Nat} (hd : 1 ≤ d) {M : MM}  {v1 v2 : Int} {res : AR × MM} (hf : gh_brother v1 v2 M = some res) : EX Z d 119 0 (ent 119 [vR 0, vI v1, vI v2]) [] M res := by
  obtain ⟨e9, rfl⟩ : ∃ e9, d = e9 + 1 := ⟨d - 1, by omega⟩
  unfold gh_brother at hf
  show EX Z _ 119 0 [vR 0, vI v1, vI v2] [] M res
  refine ex_pu (ls' := [vR 0, vI v1, vI v2]) (st' := [vR 0]) (dg dc119 0 rfl) rfl rfl ?_
  refine ex_pu (ls' := [vR 0, vI v1, vI v2]) (st' := [vI v1, vR 0]) (dg dc119 1 rfl) rfl rfl ?_
  refine ex_cV (vs := [vR 0, vI v1]) (st' := []) (F := (gh_checkBrother v1 M)) (Or.inr (Or.inl ⟨rfl, (dg dc119 2 rfl)⟩)) rfl rfl (rk1 (LOC.st (Nat.le_of_ble_eq_true rfl) rfl) rfl) rfl (fun _ r9 => gh_checkBrother_ok (Z := Z) (d := e9) (by omega)  r9) hf (fun M_2 he_1 hf => ?_)
  refine ex_pu (ls' := [vR 0, vI v1, vI v2]) (st' := [vI v2]) (dg dc119 3 rfl) rfl rfl ?_
  refine ex_bif hf (fun hc_4 hf => ?_) (fun hc_4 hf => ?_)
  · refine ex_tsw (t := 48) (dg dc119 4 rfl) hc_4 (by decide +kernel) rfl ⟨by decide, by decide, by decide⟩ rfl ?_
    refine ex_pu (ls' := [vR 0, vI v1, vI v2]) (st' := [vR 0]) (dg dc119 5 rfl) rfl rfl ?_
    refine ex_getF (dg dc119 6 rfl) rfl (LOC.st (Nat.le_of_ble_eq_true rfl) rfl) rfl ?_
    refine ex_getO (dg dc119 7 rfl) rfl (LOC.st (Nat.le_of_ble_eq_true rfl) rfl) rfl ?_
    show EX Z _ 119 _ [vR 0, vI v1, vI v2] [vR 14] _ _
    refine ex_pu (ls' := [vR 0, vI v1, vI v2]) (st' := [vI v1, vR 14]) (dg dc119 8 rfl) rfl rfl ?_
    refine ex_iald (dg dc119 9 rfl) (LOC.st (Nat.le_of_ble_eq_true rfl) rfl) rfl hf (fun _ hf => ?_)
    exact ex_ire (dg dc119 10 rfl) rfl hf
  ·
    refine ex_bif hf (fun hc_5 hf => ?_) (fun hc_5 hf => ?_)
    · refine ex_tsw (t := 58) (dg dc119 4 rfl) hc_5 (by decide +kernel) rfl ⟨by decide, by decide, by decide⟩ rfl ?_
      refine ex_pu (ls' := [vR 0, vI v1, vI v2]) (st' := [vR 0]) (dg dc119 11 rfl) rfl rfl ?_
      refine ex_getF (dg dc119 12 rfl) rfl (LOC.st (Nat.le_of_ble_eq_true rfl) rfl) rfl ?_
      refine ex_getO (dg dc119 13 rfl) rfl (LOC.st (Nat.le_of_ble_eq_true rfl) rfl) rfl ?_
      show EX Z _ 119 _ [vR 0, vI v1, vI v2] [vR 4] _ _
      refine ex_pu (ls' := [vR 0, vI v1, vI v2]) (st' := [vI 10, vR 4]) (dg dc119 14 rfl) rfl rfl ?_
      refine ex_pu (ls' := [vR 0, vI v1, vI v2]) (st' := [vI v1, vI 10, vR 4]) (dg dc119 15 rfl) rfl rfl ?_
      refine ex_pu (ls' := [vR 0, vI v1, vI v2]) (st' := [vI (10 + v1), vR 4]) (dg dc119 16 rfl) rfl rfl ?_
      refine ex_iald (dg dc119 17 rfl) (LOC.st (Nat.le_of_ble_eq_true rfl) rfl) rfl hf (fun _ hf => ?_)
      exact ex_ire (dg dc119 18 rfl) rfl hf
    ·
      refine ex_bif hf (fun hc_6 hf => ?_) (fun hc_6 hf => ?_)
      · refine ex_tsw (t := 71) (dg dc119 4 rfl) hc_6 (by decide +kernel) rfl ⟨by decide, by decide, by decide⟩ rfl ?_
        refine ex_pu (ls' := [vR 0, vI v1, vI v2]) (st' := [vR 0]) (dg dc119 19 rfl) rfl rfl ?_
        refine ex_getF (dg dc119 20 rfl) rfl (LOC.st (Nat.le_of_ble_eq_true rfl) rfl) rfl ?_
        refine ex_getO (dg dc119 21 rfl) rfl (LOC.st (Nat.le_of_ble_eq_true rfl) rfl) rfl ?_
        show EX Z _ 119 _ [vR 0, vI v1, vI v2] [vR 5] _ _
        refine ex_pu (ls' := [vR 0, vI v1, vI v2]) (st' := [vI 10, vR 5]) (dg dc119 22 rfl) rfl rfl ?_
        refine ex_pu (ls' := [vR 0, vI v1, vI v2]) (st' := [vI v1, vI 10, vR 5]) (dg dc119 23 rfl) rfl rfl ?_
        refine ex_pu (ls' := [vR 0, vI v1, vI v2]) (st' := [vI (10 + v1), vR 5]) (dg dc119 24 rfl) rfl rfl ?_
        refine ex_iald (dg dc119 25 rfl) (LOC.st (Nat.le_of_ble_eq_true rfl) rfl) rfl hf (fun _ hf => ?_)
        exact ex_ire (dg dc119 26 rfl) rfl hf
      ·
        refine ex_bif hf (fun hc_7 hf => ?_) (fun hc_7 hf => ?_)
        · refine ex_tsw (t := 84) (dg dc119 4 rfl) hc_7 (by decide +kernel) rfl ⟨by decide, by decide, by decide⟩ rfl ?_
          refine ex_pu (ls' := [vR 0, vI v1, vI v2]) (st' := [vR 0]) (dg dc119 27 rfl) rfl rfl ?_
          refine ex_getF (dg dc119 28 rfl) rfl (LOC.st (Nat.le_of_ble_eq_true rfl) rfl) rfl ?_
          refine ex_getO (dg dc119 29 rfl) rfl (LOC.st (Nat.le_of_ble_eq_true rfl) rfl) rfl ?_
          show EX Z _ 119 _ [vR 0, vI v1, vI v2] [vR 15] _ _
          refine ex_pu (ls' := [vR 0, vI v1, vI v2]) (st' := [vI v1, vR 15]) (dg dc119 30 rfl) rfl rfl ?_
          refine ex_iald (dg dc119 31 rfl) (LOC.st (Nat.le_of_ble_eq_true rfl) rfl) rfl hf (fun _ hf => ?_)
          exact ex_ire (dg dc119 32 rfl) rfl hf
        ·
          refine ex_bif hf (fun hc_8 hf => ?_) (fun hc_8 hf => ?_)
          · refine ex_tsw (t := 94) (dg dc119 4 rfl) hc_8 (by decide +kernel) rfl ⟨by decide, by decide, by decide⟩ rfl ?_
            refine ex_pu (ls' := [vR 0, vI v1, vI v2]) (st' := [vR 0]) (dg dc119 33 rfl) rfl rfl ?_
            refine ex_getF (dg dc119 34 rfl) rfl (LOC.st (Nat.le_of_ble_eq_true rfl) rfl) rfl ?_
            refine ex_getO (dg dc119 35 rfl) rfl (LOC.st (Nat.le_of_ble_eq_true rfl) rfl) rfl ?_
            show EX Z _ 119 _ [vR 0, vI v1, vI v2] [vR 16] _ _
            refine ex_pu (ls' := [vR 0, vI v1, vI v2]) (st' := [vI v1, vR 16]) (dg dc119 36 rfl) rfl rfl ?_
            refine ex_iald (dg dc119 37 rfl) (LOC.st (Nat.le_of_ble_eq_true rfl) rfl) rfl hf (fun _ hf => ?_)
            exact ex_ire (dg dc119 38 rfl) rfl hf
          ·
            refine ex_bif hf (fun hc_9 hf => ?_) (fun hc_9 hf => ?_)
            · refine ex_tsw (t := 104) (dg dc119 4 rfl) hc_9 (by decide +kernel) rfl ⟨by decide, by decide, by decide⟩ rfl ?_
              refine ex_pu (ls' := [vR 0, vI v1, vI v2]) (st' := [vR 0]) (dg dc119 39 rfl) rfl rfl ?_
              refine ex_getF (dg dc119 40 rfl) rfl (LOC.st (Nat.le_of_ble_eq_true rfl) rfl) rfl ?_
              refine ex_getI (dg dc119 41 rfl) rfl (LOC.st (Nat.le_of_ble_eq_true rfl) rfl) rfl ?_
              refine ex_pu (ls' := [vR 0, vI v1, vI v2]) (st' := [vI v1, vI (M_2 23 7)]) (dg dc119 42 rfl) rfl rfl ?_
              refine ex_cI (vs := [vI (M_2 23 7), vI v1]) (st' := []) (F := (gh_bit (M_2 23 7) v1 M_2)) (Or.inl ⟨rfl, (dg dc119 43 rfl)⟩) rfl rfl (Or.inl rfl) rfl (fun _ r9 => gh_bit_ok (Z := Z) (d := e9) (by omega)  r9) hf (fun z_12 M_11 he_10 hf => ?_)
              refine ex_pu (ls' := [vR 0, vI v1, vI v2]) (st' := [vI 1, vI z_12]) (dg dc119 44 rfl) rfl rfl ?_
              refine ex_icmp (t := 131) (dg dc119 45 rfl) rfl hf (fun _ hf => ?_) (fun _ hf => ?_)
              · refine ex_pu (ls' := [vR 0, vI v1, vI v2]) (st' := [vI (-1)]) (dg dc119 52 rfl) rfl rfl ?_
                exact ex_ire (dg dc119 53 rfl) rfl hf
              · refine ex_pu (ls' := [vR 0, vI v1, vI v2]) (st' := [vR 0]) (dg dc119 46 rfl) rfl rfl ?_
                refine ex_getF (dg dc119 47 rfl) rfl (LOC.st (Nat.le_of_ble_eq_true rfl) rfl) rfl ?_
                refine ex_getO (dg dc119 48 rfl) rfl (LOC.st (Nat.le_of_ble_eq_true rfl) rfl) rfl ?_
                show EX Z _ 119 _ [vR 0, vI v1, vI v2] [vR 25] _ _
                refine ex_pu (ls' := [vR 0, vI v1, vI v2]) (st' := [vI v1, vR 25]) (dg dc119 49 rfl) rfl rfl ?_
                refine ex_iald (dg dc119 50 rfl) (LOC.st (Nat.le_of_ble_eq_true rfl) rfl) rfl hf (fun _ hf => ?_)
                refine ex_goto (t := 132) (dg dc119 51 rfl) rfl rfl ?_
                exact ex_ire (dg dc119 53 rfl) rfl hf
            ·
              refine ex_bif hf (fun hc_13 hf => ?_) (fun hc_13 hf => ?_)
              · refine ex_tsw (t := 133) (dg dc119 4 rfl) hc_13 (by decide +kernel) rfl ⟨by decide, by decide, by decide⟩ rfl ?_
                refine ex_pu (ls' := [vR 0, vI v1, vI v2]) (st' := [vR 0]) (dg dc119 54 rfl) rfl rfl ?_
                refine ex_getF (dg dc119 55 rfl) rfl (LOC.st (Nat.le_of_ble_eq_true rfl) rfl) rfl ?_
                refine ex_getI (dg dc119 56 rfl) rfl (LOC.st (Nat.le_of_ble_eq_true rfl) rfl) rfl ?_
                refine ex_pu (ls' := [vR 0, vI v1, vI v2]) (st' := [vI v1, vI (M_2 23 7)]) (dg dc119 57 rfl) rfl rfl ?_
                refine ex_cI (vs := [vI (M_2 23 7), vI v1]) (st' := []) (F := (gh_bit (M_2 23 7) v1 M_2)) (Or.inl ⟨rfl, (dg dc119 58 rfl)⟩) rfl rfl (Or.inl rfl) rfl (fun _ r9 => gh_bit_ok (Z := Z) (d := e9) (by omega)  r9) hf (fun z_16 M_15 he_14 hf => ?_)
                refine ex_pu (ls' := [vR 0, vI v1, vI v2]) (st' := [vI 1, vI z_16]) (dg dc119 59 rfl) rfl rfl ?_
                refine ex_icmp (t := 170) (dg dc119 60 rfl) rfl hf (fun _ hf => ?_) (fun _ hf => ?_)
                · refine ex_pu (ls' := [vR 0, vI v1, vI v2]) (st' := [vI (-1)]) (dg dc119 73 rfl) rfl rfl ?_
                  exact ex_ire (dg dc119 74 rfl) rfl hf
                · refine ex_pu (ls' := [vR 0, vI v1, vI v2]) (st' := [vR 0]) (dg dc119 61 rfl) rfl rfl ?_
                  refine ex_getF (dg dc119 62 rfl) rfl (LOC.st (Nat.le_of_ble_eq_true rfl) rfl) rfl ?_
                  refine ex_getO (dg dc119 63 rfl) rfl (LOC.st (Nat.le_of_ble_eq_true rfl) rfl) rfl ?_
                  show EX Z _ 119 _ [vR 0, vI v1, vI v2] [vR 25] _ _
                  refine ex_pu (ls' := [vR 0, vI v1, vI v2]) (st' := [vI v1, vR 25]) (dg dc119 64 rfl) rfl rfl ?_
                  refine ex_iald (dg dc119 65 rfl) (LOC.st (Nat.le_of_ble_eq_true rfl) rfl) rfl hf (fun _ hf => ?_)
                  refine ex_pu (ls' := [vR 0, vI v1, vI v2]) (st' := [vR 0, vI (M_15 25 (v1).toNat)]) (dg dc119 66 rfl) rfl rfl ?_
                  refine ex_getF (dg dc119 67 rfl) rfl (LOC.st (Nat.le_of_ble_eq_true rfl) rfl) rfl ?_
                  refine ex_getO (dg dc119 68 rfl) rfl (LOC.st (Nat.le_of_ble_eq_true rfl) rfl) rfl ?_
                  show EX Z _ 119 _ [vR 0, vI v1, vI v2] [vR 15, vI (M_15 25 (v1).toNat)] _ _
                  refine ex_pu (ls' := [vR 0, vI v1, vI v2]) (st' := [vI v1, vR 15, vI (M_15 25 (v1).toNat)]) (dg dc119 69 rfl) rfl rfl ?_
                  refine ex_iald (dg dc119 70 rfl) (LOC.st (Nat.le_of_ble_eq_true rfl) rfl) rfl hf (fun _ hf => ?_)
                  refine ex_pu (ls' := [vR 0, vI v1, vI v2]) (st' := [vI ((M_15 25 (v1).toNat) + (M_15 15 (v1).toNat))]) (dg dc119 71 rfl) rfl rfl ?_
                  refine ex_goto (t := 171) (dg dc119 72 rfl) rfl rfl ?_
                  exact ex_ire (dg dc119 74 rfl) rfl hf
              · refine ex_tsd (t := 172) (dg dc119 4 rfl) (sw_out (lo := 0) (hi := 6) (fun j h1 h2 => by have hj : j = 0 ∨ j = 1 ∨ j = 2 ∨ j = 3 ∨ j = 4 ∨ j = 5 ∨ j = 6 := (by omega); rcases hj with rfl | rfl | rfl | rfl | rfl | rfl | rfl <;> first | exact ⟨hc_4, by decide +kernel⟩ | exact ⟨hc_5, by decide +kernel⟩ | exact ⟨hc_6, by decide +kernel⟩ | exact ⟨hc_7, by decide +kernel⟩ | exact ⟨hc_8, by decide +kernel⟩ | exact ⟨hc_9, by decide +kernel⟩ | exact ⟨hc_13, by decide +kernel⟩)) rfl ?_
                exact ex_thr (ci := 16) (is := 203) (ic := 205) (ln := 9) (dg dc119 75 rfl) rfl (exN_of rfl (dg dc119 76 rfl) (dg dc119 77 rfl) (dg dc119 78 rfl) rfl rfl rfl) (dg dc119 79 rfl) rfl ⟨by decide, by decide⟩ hf
-- GlassHill.girl
def il120 : List (Nat × Instr × Nat) := [(0, .iload_n 1, 1), (1, .ifCond .lt 8, 3), (4, .iload_n 1, 1), (5, .iconst 4, 1), (6, .if_icmp .le 13, 3), (9, .new 201, 3), (12, .dup, 1), (13, .ldc 203, 2), (15, .invokespecial 205, 3), (18, .athrow, 1), (19, .aload_n 0, 1), (20, .invokevirtual 257, 3), (23, .iload_n 1, 1), (24, .tableswitch 64 0 3 #[32, 40, 48, 56], 32), (56, .aload_n 0, 1), (57, .getfield 33, 3), (60, .getfield 260, 3), (63, .ireturn, 1), (64, .aload_n 0, 1), (65, .getfield 33, 3), (68, .getfield 263, 3), (71, .ireturn, 1), (72, .aload_n 0, 1), (73, .getfield 33, 3), (76, .getfield 266, 3), (79, .ireturn, 1), (80, .aload_n 0, 1), (81, .getfield 33, 3), (84, .getfield 269, 3), (87, .ireturn, 1), (88, .aload_n 0, 1), (89, .getfield 19, 3), (92, .aload_n 0, 1), (93, .getfield 33, 3), (96, .getfield 269, 3), (99, .invokevirtual 272, 3), (102, .ireturn, 1)]
theorem dc120 : dcs (mC 120) il120 := dc_of (by decide +kernel)
def gh_girl (v1 : Int) (M : MM) : OR :=
  (bif cmpB .lt v1 0 then thx 16 M else (bif cmpB .le v1 4 then (bV (gh_checkAnyPlace  M) fun M_2 => (bif cmpB .eq v1 0 then some (rI (M_2 23 0), M_2) else (bif cmpB .eq v1 1 then some (rI (M_2 23 1), M_2) else (bif cmpB .eq v1 2 then some (rI (M_2 23 2), M_2) else (bif cmpB .eq v1 3 then some (rI (M_2 23 3), M_2) else (bI (land_worthOf 3 (M_2 23 3) M_2) fun z_10 M_9 => some (rI z_10, M_9))))))) else thx 16 M))
set_option maxRecDepth 4000 in
theorem gh_girl_ok {Z : Nat × (Nat → Int)} {d : Nat} (hd : 2 ≤ d) {M : MM}  {v1 : Int} {res : AR × MM} (hf : gh_girl v1 M = some res) : EX Z d 120 0 (ent 120 [vR 0, vI v1]) [] M res := by
  obtain ⟨e9, rfl⟩ : ∃ e9, d = e9 + 1 := ⟨d - 1, by omega⟩
  unfold gh_girl at hf
  show EX Z _ 120 0 [vR 0, vI v1] [] M res
  refine ex_pu (ls' := [vR 0, vI v1]) (st' := [vI v1]) (dg dc120 0 rfl) rfl rfl ?_
  refine ex_if (t := 9) (dg dc120 1 rfl) rfl hf (fun _ hf => ?_) (fun _ hf => ?_)
  · exact ex_thr (ci := 16) (is := 203) (ic := 205) (ln := 9) (dg dc120 5 rfl) rfl (exN_of rfl (dg dc120 6 rfl) (dg dc120 7 rfl) (dg dc120 8 rfl) rfl rfl rfl) (dg dc120 9 rfl) rfl ⟨by decide, by decide⟩ hf
  · refine ex_pu (ls' := [vR 0, vI v1]) (st' := [vI v1]) (dg dc120 2 rfl) rfl rfl ?_
    refine ex_pu (ls' := [vR 0, vI v1]) (st' := [vI 4, vI v1]) (dg dc120 3 rfl) rfl rfl ?_
    refine ex_icmp (t := 19) (dg dc120 4 rfl) rfl hf (fun _ hf => ?_) (fun _ hf => ?_)
    · refine ex_pu (ls' := [vR 0, vI v1]) (st' := [vR 0]) (dg dc120 10 rfl) rfl rfl ?_
      refine ex_cV (vs := [vR 0]) (st' := []) (F := (gh_checkAnyPlace  M)) (Or.inr (Or.inl ⟨rfl, (dg dc120 11 rfl)⟩)) rfl rfl (rk1 (LOC.st (Nat.le_of_ble_eq_true rfl) rfl) rfl) rfl (fun _ r9 => gh_checkAnyPlace_ok (Z := Z) (d := e9) (by omega)  r9) hf (fun M_2 he_1 hf => ?_)
      refine ex_pu (ls' := [vR 0, vI v1]) (st' := [vI v1]) (dg dc120 12 rfl) rfl rfl ?_
      refine ex_bif hf (fun hc_4 hf => ?_) (fun hc_4 hf => ?_)
      · refine ex_tsw (t := 56) (dg dc120 13 rfl) hc_4 (by decide +kernel) rfl ⟨by decide, by decide, by decide⟩ rfl ?_
        refine ex_pu (ls' := [vR 0, vI v1]) (st' := [vR 0]) (dg dc120 14 rfl) rfl rfl ?_
        refine ex_getF (dg dc120 15 rfl) rfl (LOC.st (Nat.le_of_ble_eq_true rfl) rfl) rfl ?_
        refine ex_getI (dg dc120 16 rfl) rfl (LOC.st (Nat.le_of_ble_eq_true rfl) rfl) rfl ?_
        exact ex_ire (dg dc120 17 rfl) rfl hf
      ·
        refine ex_bif hf (fun hc_5 hf => ?_) (fun hc_5 hf => ?_)
        · refine ex_tsw (t := 64) (dg dc120 13 rfl) hc_5 (by decide +kernel) rfl ⟨by decide, by decide, by decide⟩ rfl ?_
          refine ex_pu (ls' := [vR 0, vI v1]) (st' := [vR 0]) (dg dc120 18 rfl) rfl rfl ?_
          refine ex_getF (dg dc120 19 rfl) rfl (LOC.st (Nat.le_of_ble_eq_true rfl) rfl) rfl ?_
          refine ex_getI (dg dc120 20 rfl) rfl (LOC.st (Nat.le_of_ble_eq_true rfl) rfl) rfl ?_
          exact ex_ire (dg dc120 21 rfl) rfl hf
        ·
          refine ex_bif hf (fun hc_6 hf => ?_) (fun hc_6 hf => ?_)
          · refine ex_tsw (t := 72) (dg dc120 13 rfl) hc_6 (by decide +kernel) rfl ⟨by decide, by decide, by decide⟩ rfl ?_
            refine ex_pu (ls' := [vR 0, vI v1]) (st' := [vR 0]) (dg dc120 22 rfl) rfl rfl ?_
            refine ex_getF (dg dc120 23 rfl) rfl (LOC.st (Nat.le_of_ble_eq_true rfl) rfl) rfl ?_
            refine ex_getI (dg dc120 24 rfl) rfl (LOC.st (Nat.le_of_ble_eq_true rfl) rfl) rfl ?_
            exact ex_ire (dg dc120 25 rfl) rfl hf
          ·
            refine ex_bif hf (fun hc_7 hf => ?_) (fun hc_7 hf => ?_)
            · refine ex_tsw (t := 80) (dg dc120 13 rfl) hc_7 (by decide +kernel) rfl ⟨by decide, by decide, by decide⟩ rfl ?_
              refine ex_pu (ls' := [vR 0, vI v1]) (st' := [vR 0]) (dg dc120 26 rfl) rfl rfl ?_
              refine ex_getF (dg dc120 27 rfl) rfl (LOC.st (Nat.le_of_ble_eq_true rfl) rfl) rfl ?_
              refine ex_getI (dg dc120 28 rfl) rfl (LOC.st (Nat.le_of_ble_eq_true rfl) rfl) rfl ?_
              exact ex_ire (dg dc120 29 rfl) rfl hf
            · refine ex_tsd (t := 88) (dg dc120 13 rfl) (sw_out (lo := 0) (hi := 3) (fun j h1 h2 => by have hj : j = 0 ∨ j = 1 ∨ j = 2 ∨ j = 3 := (by omega); rcases hj with rfl | rfl | rfl | rfl <;> first | exact ⟨hc_4, by decide +kernel⟩ | exact ⟨hc_5, by decide +kernel⟩ | exact ⟨hc_6, by decide +kernel⟩ | exact ⟨hc_7, by decide +kernel⟩)) rfl ?_
              refine ex_pu (ls' := [vR 0, vI v1]) (st' := [vR 0]) (dg dc120 30 rfl) rfl rfl ?_
              refine ex_getF (dg dc120 31 rfl) rfl (LOC.st (Nat.le_of_ble_eq_true rfl) rfl) rfl ?_
              refine ex_pu (ls' := [vR 0, vI v1]) (st' := [vR 0, vR 3]) (dg dc120 32 rfl) rfl rfl ?_
              refine ex_getF (dg dc120 33 rfl) rfl (LOC.st (Nat.le_of_ble_eq_true rfl) rfl) rfl ?_
              refine ex_getI (dg dc120 34 rfl) rfl (LOC.st (Nat.le_of_ble_eq_true rfl) rfl) rfl ?_
              refine ex_cI (vs := [vR 3, vI (M_2 23 3)]) (st' := []) (F := (land_worthOf 3 (M_2 23 3) M_2)) (Or.inr (Or.inl ⟨rfl, (dg dc120 35 rfl)⟩)) rfl rfl (rk1 (LOC.st (Nat.le_of_ble_eq_true rfl) rfl) rfl) rfl (fun _ r9 => land_worthOf_ok (Z := Z) (d := e9) (by omega) isLand3  r9) hf (fun z_10 M_9 he_8 hf => ?_)
              exact ex_ire (dg dc120 36 rfl) rfl hf
    · exact ex_thr (ci := 16) (is := 203) (ic := 205) (ln := 9) (dg dc120 5 rfl) rfl (exN_of rfl (dg dc120 6 rfl) (dg dc120 7 rfl) (dg dc120 8 rfl) rfl rfl rfl) (dg dc120 9 rfl) rfl ⟨by decide, by decide⟩ hf
-- GlassHill.fits
def il122 : List (Nat × Instr × Nat) := [(0, .aload_n 0, 1), (1, .iload_n 1, 1), (2, .invokevirtual 212, 3), (5, .aload_n 0, 1), (6, .iload_n 2, 1), (7, .invokevirtual 164, 3), (10, .aload_n 0, 1), (11, .getfield 19, 3), (14, .iload_n 2, 1), (15, .invokevirtual 167, 3), (18, .ifCond .ne 14, 3), (21, .new 278, 3), (24, .dup, 1), (25, .ldc_w 295, 3), (28, .invokespecial 282, 3), (31, .athrow, 1), (32, .aload_n 0, 1), (33, .getfield 19, 3), (36, .aload_n 0, 1), (37, .getfield 19, 3), (40, .getfield 215, 3), (43, .iload_n 1, 1), (44, .iaload, 1), (45, .iload_n 2, 1), (46, .invokevirtual 297, 3), (49, .ireturn, 1)]
theorem dc122 : dcs (mC 122) il122 := dc_of (by decide +kernel)
def gh_fits (v1 : Int) (v2 : Int) (M : MM) : OR :=
  (bV (gh_checkThing v1 M) fun M_2 => (bV (gh_checkPlace v2 M_2) fun M_5 => (bI (land_hasKeeper 3 v2 M_5) fun z_9 M_8 => (bif cmpB .ne z_9 0 then (bif inB v1 10 then (bI (land_opens 3 (M_8 9 (v1).toNat) v2 M_8) fun z_12 M_11 => (bif zo z_12 then some (rI z_12, M_11) else none)) else none) else thx 14 M_8))))
set_option maxRecDepth 4000 in
theorem gh_fits_ok {Z : Nat × (Nat → Int)} {d : Nat} (hd : 2 ≤ d) {M : MM}  {v1 v2 : Int} {res : AR × MM} (hf : gh_fits v1 v2 M = some res) : EX Z d 122 0 (ent 122 [vR 0, vI v1, vI v2]) [] M res := by
  obtain ⟨e9, rfl⟩ : ∃ e9, d = e9 + 1 := ⟨d - 1, by omega⟩
  unfold gh_fits at hf
  show EX Z _ 122 0 [vR 0, vI v1, vI v2] [] M res
  refine ex_pu (ls' := [vR 0, vI v1, vI v2]) (st' := [vR 0]) (dg dc122 0 rfl) rfl rfl ?_
  refine ex_pu (ls' := [vR 0, vI v1, vI v2]) (st' := [vI v1, vR 0]) (dg dc122 1 rfl) rfl rfl ?_
  refine ex_cV (vs := [vR 0, vI v1]) (st' := []) (F := (gh_checkThing v1 M)) (Or.inr (Or.inl ⟨rfl, (dg dc122 2 rfl)⟩)) rfl rfl (rk1 (LOC.st (Nat.le_of_ble_eq_true rfl) rfl) rfl) rfl (fun _ r9 => gh_checkThing_ok (Z := Z) (d := e9) (by omega)  r9) hf (fun M_2 he_1 hf => ?_)
  refine ex_pu (ls' := [vR 0, vI v1, vI v2]) (st' := [vR 0]) (dg dc122 3 rfl) rfl rfl ?_
  refine ex_pu (ls' := [vR 0, vI v1, vI v2]) (st' := [vI v2, vR 0]) (dg dc122 4 rfl) rfl rfl ?_
  refine ex_cV (vs := [vR 0, vI v2]) (st' := []) (F := (gh_checkPlace v2 M_2)) (Or.inr (Or.inl ⟨rfl, (dg dc122 5 rfl)⟩)) rfl rfl (rk1 (LOC.st (Nat.le_of_ble_eq_true rfl) rfl) rfl) rfl (fun _ r9 => gh_checkPlace_ok (Z := Z) (d := e9) (by omega)  r9) hf (fun M_5 he_4 hf => ?_)
  refine ex_pu (ls' := [vR 0, vI v1, vI v2]) (st' := [vR 0]) (dg dc122 6 rfl) rfl rfl ?_
  refine ex_getF (dg dc122 7 rfl) rfl (LOC.st (Nat.le_of_ble_eq_true rfl) rfl) rfl ?_
  refine ex_pu (ls' := [vR 0, vI v1, vI v2]) (st' := [vI v2, vR 3]) (dg dc122 8 rfl) rfl rfl ?_
  refine ex_cI (vs := [vR 3, vI v2]) (st' := []) (F := (land_hasKeeper 3 v2 M_5)) (Or.inr (Or.inl ⟨rfl, (dg dc122 9 rfl)⟩)) rfl rfl (rk1 (LOC.st (Nat.le_of_ble_eq_true rfl) rfl) rfl) rfl (fun _ r9 => land_hasKeeper_ok (Z := Z) (d := e9) (by omega) isLand3  r9) hf (fun z_9 M_8 he_7 hf => ?_)
  refine ex_if (t := 32) (dg dc122 10 rfl) rfl hf (fun _ hf => ?_) (fun _ hf => ?_)
  · refine ex_pu (ls' := [vR 0, vI v1, vI v2]) (st' := [vR 0]) (dg dc122 16 rfl) rfl rfl ?_
    refine ex_getF (dg dc122 17 rfl) rfl (LOC.st (Nat.le_of_ble_eq_true rfl) rfl) rfl ?_
    refine ex_pu (ls' := [vR 0, vI v1, vI v2]) (st' := [vR 0, vR 3]) (dg dc122 18 rfl) rfl rfl ?_
    refine ex_getF (dg dc122 19 rfl) rfl (LOC.st (Nat.le_of_ble_eq_true rfl) rfl) rfl ?_
    refine ex_getO (dg dc122 20 rfl) rfl (LOC.st (Nat.le_of_ble_eq_true rfl) rfl) rfl ?_
    show EX Z _ 122 _ [vR 0, vI v1, vI v2] [vR 9, vR 3] _ _
    refine ex_pu (ls' := [vR 0, vI v1, vI v2]) (st' := [vI v1, vR 9, vR 3]) (dg dc122 21 rfl) rfl rfl ?_
    refine ex_iald (dg dc122 22 rfl) (LOC.st (Nat.le_of_ble_eq_true rfl) rfl) rfl hf (fun _ hf => ?_)
    refine ex_pu (ls' := [vR 0, vI v1, vI v2]) (st' := [vI v2, vI (M_8 9 (v1).toNat), vR 3]) (dg dc122 23 rfl) rfl rfl ?_
    refine ex_cI (vs := [vR 3, vI (M_8 9 (v1).toNat), vI v2]) (st' := []) (F := (land_opens 3 (M_8 9 (v1).toNat) v2 M_8)) (Or.inr (Or.inl ⟨rfl, (dg dc122 24 rfl)⟩)) rfl rfl (rk1 (LOC.st (Nat.le_of_ble_eq_true rfl) rfl) rfl) rfl (fun _ r9 => land_opens_ok (Z := Z) (d := e9) (by omega) isLand3  r9) hf (fun z_12 M_11 he_10 hf => ?_)
    exact ex_irb (dg dc122 25 rfl) rfl hf
  · exact ex_thr (ci := 14) (is := 295) (ic := 282) (ln := 10) (dg dc122 11 rfl) rfl (exN_ofW rfl (dg dc122 12 rfl) (dg dc122 13 rfl) (dg dc122 14 rfl) rfl rfl rfl) (dg dc122 15 rfl) rfl ⟨by decide, by decide⟩ hf
-- GlassHill.count
def il124 : List (Nat × Instr × Nat) := [(0, .iload_n 1, 1), (1, .tableswitch 181 0 12 #[67, 75, 83, 91, 99, 110, 118, 126, 134, 142, 150, 158, 173], 67), (68, .aload_n 0, 1), (69, .getfield 19, 3), (72, .getfield 313, 3), (75, .ireturn, 1), (76, .aload_n 0, 1), (77, .getfield 19, 3), (80, .getfield 316, 3), (83, .ireturn, 1), (84, .aload_n 0, 1), (85, .getfield 19, 3), (88, .getfield 319, 3), (91, .ireturn, 1), (92, .aload_n 0, 1), (93, .getfield 19, 3), (96, .getfield 322, 3), (99, .ireturn, 1), (100, .aload_n 0, 1), (101, .getfield 19, 3), (104, .getfield 325, 3), (107, .invokestatic 328, 3), (110, .ireturn, 1), (111, .aload_n 0, 1), (112, .getfield 19, 3), (115, .getfield 143, 3), (118, .ireturn, 1), (119, .aload_n 0, 1), (120, .getfield 26, 3), (123, .getfield 158, 3), (126, .ireturn, 1), (127, .aload_n 0, 1), (128, .getfield 33, 3), (131, .getfield 263, 3), (134, .ireturn, 1), (135, .aload_n 0, 1), (136, .getfield 33, 3), (139, .getfield 195, 3), (142, .ireturn, 1), (143, .aload_n 0, 1), (144, .getfield 33, 3), (147, .getfield 251, 3), (150, .ireturn, 1), (151, .aload_n 0, 1), (152, .getfield 33, 3), (155, .getfield 333, 3), (158, .ireturn, 1), (159, .aload_n 0, 1), (160, .getfield 19, 3), (163, .aload_n 0, 1), (164, .getfield 33, 3), (167, .getfield 333, 3), (170, .invokevirtual 272, 3), (173, .ireturn, 1), (174, .aload_n 0, 1), (175, .getfield 80, 3), (178, .getfield 336, 3), (181, .ireturn, 1), (182, .iconst (-1), 1), (183, .ireturn, 1)]
theorem dc124 : dcs (mC 124) il124 := dc_of (by decide +kernel)
def gh_count (v1 : Int) (M : MM) : OR :=
  (bif cmpB .eq v1 0 then some (rI (M 3 0), M) else (bif cmpB .eq v1 1 then some (rI (M 3 1), M) else (bif cmpB .eq v1 2 then some (rI (M 3 2), M) else (bif cmpB .eq v1 3 then some (rI (M 3 3), M) else (bif cmpB .eq v1 4 then (bI (jdk_bitCount (M 3 5) M) fun z_8 M_7 => some (rI z_8, M_7)) else (bif cmpB .eq v1 5 then some (rI (M 3 4), M) else (bif cmpB .eq v1 6 then some (rI (M 17 0), M) else (bif cmpB .eq v1 7 then some (rI (M 23 1), M) else (bif cmpB .eq v1 8 then some (rI (M 23 6), M) else (bif cmpB .eq v1 9 then some (rI (M 23 7), M) else (bif cmpB .eq v1 10 then some (rI (M 23 4), M) else (bif cmpB .eq v1 11 then (bI (land_worthOf 3 (M 23 4) M) fun z_18 M_17 => some (rI z_18, M_17)) else (bif cmpB .eq v1 12 then some (rI (M 83 0), M) else some (rI (-1), M))))))))))))))
set_option maxRecDepth 4000 in
theorem gh_count_ok {Z : Nat × (Nat → Int)} {d : Nat} (hd : 2 ≤ d) {M : MM}  {v1 : Int} {res : AR × MM} (hf : gh_count v1 M = some res) : EX Z d 124 0 (ent 124 [vR 0, vI v1]) [] M res := by
  obtain ⟨e9, rfl⟩ : ∃ e9, d = e9 + 1 := ⟨d - 1, by omega⟩
  unfold gh_count at hf
  show EX Z _ 124 0 [vR 0, vI v1] [] M res
  refine ex_pu (ls' := [vR 0, vI v1]) (st' := [vI v1]) (dg dc124 0 rfl) rfl rfl ?_
  refine ex_bif hf (fun hc_1 hf => ?_) (fun hc_1 hf => ?_)
  · refine ex_tsw (t := 68) (dg dc124 1 rfl) hc_1 (by decide +kernel) rfl ⟨by decide, by decide, by decide⟩ rfl ?_
    refine ex_pu (ls' := [vR 0, vI v1]) (st' := [vR 0]) (dg dc124 2 rfl) rfl rfl ?_
    refine ex_getF (dg dc124 3 rfl) rfl (LOC.st (Nat.le_of_ble_eq_true rfl) rfl) rfl ?_
    refine ex_getI (dg dc124 4 rfl) rfl (LOC.st (Nat.le_of_ble_eq_true rfl) rfl) rfl ?_
    exact ex_ire (dg dc124 5 rfl) rfl hf
  ·
    refine ex_bif hf (fun hc_2 hf => ?_) (fun hc_2 hf => ?_)
    · refine ex_tsw (t := 76) (dg dc124 1 rfl) hc_2 (by decide +kernel) rfl ⟨by decide, by decide, by decide⟩ rfl ?_
      refine ex_pu (ls' := [vR 0, vI v1]) (st' := [vR 0]) (dg dc124 6 rfl) rfl rfl ?_
      refine ex_getF (dg dc124 7 rfl) rfl (LOC.st (Nat.le_of_ble_eq_true rfl) rfl) rfl ?_
      refine ex_getI (dg dc124 8 rfl) rfl (LOC.st (Nat.le_of_ble_eq_true rfl) rfl) rfl ?_
      exact ex_ire (dg dc124 9 rfl) rfl hf
    ·
      refine ex_bif hf (fun hc_3 hf => ?_) (fun hc_3 hf => ?_)
      · refine ex_tsw (t := 84) (dg dc124 1 rfl) hc_3 (by decide +kernel) rfl ⟨by decide, by decide, by decide⟩ rfl ?_
        refine ex_pu (ls' := [vR 0, vI v1]) (st' := [vR 0]) (dg dc124 10 rfl) rfl rfl ?_
        refine ex_getF (dg dc124 11 rfl) rfl (LOC.st (Nat.le_of_ble_eq_true rfl) rfl) rfl ?_
        refine ex_getI (dg dc124 12 rfl) rfl (LOC.st (Nat.le_of_ble_eq_true rfl) rfl) rfl ?_
        exact ex_ire (dg dc124 13 rfl) rfl hf
      ·
        refine ex_bif hf (fun hc_4 hf => ?_) (fun hc_4 hf => ?_)
        · refine ex_tsw (t := 92) (dg dc124 1 rfl) hc_4 (by decide +kernel) rfl ⟨by decide, by decide, by decide⟩ rfl ?_
          refine ex_pu (ls' := [vR 0, vI v1]) (st' := [vR 0]) (dg dc124 14 rfl) rfl rfl ?_
          refine ex_getF (dg dc124 15 rfl) rfl (LOC.st (Nat.le_of_ble_eq_true rfl) rfl) rfl ?_
          refine ex_getI (dg dc124 16 rfl) rfl (LOC.st (Nat.le_of_ble_eq_true rfl) rfl) rfl ?_
          exact ex_ire (dg dc124 17 rfl) rfl hf
        ·
          refine ex_bif hf (fun hc_5 hf => ?_) (fun hc_5 hf => ?_)
          · refine ex_tsw (t := 100) (dg dc124 1 rfl) hc_5 (by decide +kernel) rfl ⟨by decide, by decide, by decide⟩ rfl ?_
            refine ex_pu (ls' := [vR 0, vI v1]) (st' := [vR 0]) (dg dc124 18 rfl) rfl rfl ?_
            refine ex_getF (dg dc124 19 rfl) rfl (LOC.st (Nat.le_of_ble_eq_true rfl) rfl) rfl ?_
            refine ex_getI (dg dc124 20 rfl) rfl (LOC.st (Nat.le_of_ble_eq_true rfl) rfl) rfl ?_
            refine ex_cI (vs := [vI (M 3 5)]) (st' := []) (F := (jdk_bitCount (M 3 5) M)) (Or.inl ⟨rfl, (dg dc124 21 rfl)⟩) rfl rfl (Or.inl rfl) rfl (fun _ r9 => jdk_bitCount_ok (Z := Z) (d := e9) (by omega)  r9) hf (fun z_8 M_7 he_6 hf => ?_)
            exact ex_ire (dg dc124 22 rfl) rfl hf
          ·
            refine ex_bif hf (fun hc_9 hf => ?_) (fun hc_9 hf => ?_)
            · refine ex_tsw (t := 111) (dg dc124 1 rfl) hc_9 (by decide +kernel) rfl ⟨by decide, by decide, by decide⟩ rfl ?_
              refine ex_pu (ls' := [vR 0, vI v1]) (st' := [vR 0]) (dg dc124 23 rfl) rfl rfl ?_
              refine ex_getF (dg dc124 24 rfl) rfl (LOC.st (Nat.le_of_ble_eq_true rfl) rfl) rfl ?_
              refine ex_getI (dg dc124 25 rfl) rfl (LOC.st (Nat.le_of_ble_eq_true rfl) rfl) rfl ?_
              exact ex_ire (dg dc124 26 rfl) rfl hf
            ·
              refine ex_bif hf (fun hc_10 hf => ?_) (fun hc_10 hf => ?_)
              · refine ex_tsw (t := 119) (dg dc124 1 rfl) hc_10 (by decide +kernel) rfl ⟨by decide, by decide, by decide⟩ rfl ?_
                refine ex_pu (ls' := [vR 0, vI v1]) (st' := [vR 0]) (dg dc124 27 rfl) rfl rfl ?_
                refine ex_getF (dg dc124 28 rfl) rfl (LOC.st (Nat.le_of_ble_eq_true rfl) rfl) rfl ?_
                refine ex_getI (dg dc124 29 rfl) rfl (LOC.st (Nat.le_of_ble_eq_true rfl) rfl) rfl ?_
                exact ex_ire (dg dc124 30 rfl) rfl hf
              ·
                refine ex_bif hf (fun hc_11 hf => ?_) (fun hc_11 hf => ?_)
                · refine ex_tsw (t := 127) (dg dc124 1 rfl) hc_11 (by decide +kernel) rfl ⟨by decide, by decide, by decide⟩ rfl ?_
                  refine ex_pu (ls' := [vR 0, vI v1]) (st' := [vR 0]) (dg dc124 31 rfl) rfl rfl ?_
                  refine ex_getF (dg dc124 32 rfl) rfl (LOC.st (Nat.le_of_ble_eq_true rfl) rfl) rfl ?_
                  refine ex_getI (dg dc124 33 rfl) rfl (LOC.st (Nat.le_of_ble_eq_true rfl) rfl) rfl ?_
                  exact ex_ire (dg dc124 34 rfl) rfl hf
                ·
                  refine ex_bif hf (fun hc_12 hf => ?_) (fun hc_12 hf => ?_)
                  · refine ex_tsw (t := 135) (dg dc124 1 rfl) hc_12 (by decide +kernel) rfl ⟨by decide, by decide, by decide⟩ rfl ?_
                    refine ex_pu (ls' := [vR 0, vI v1]) (st' := [vR 0]) (dg dc124 35 rfl) rfl rfl ?_
                    refine ex_getF (dg dc124 36 rfl) rfl (LOC.st (Nat.le_of_ble_eq_true rfl) rfl) rfl ?_
                    refine ex_getI (dg dc124 37 rfl) rfl (LOC.st (Nat.le_of_ble_eq_true rfl) rfl) rfl ?_
                    exact ex_ire (dg dc124 38 rfl) rfl hf
                  ·
                    refine ex_bif hf (fun hc_13 hf => ?_) (fun hc_13 hf => ?_)
                    · refine ex_tsw (t := 143) (dg dc124 1 rfl) hc_13 (by decide +kernel) rfl ⟨by decide, by decide, by decide⟩ rfl ?_
                      refine ex_pu (ls' := [vR 0, vI v1]) (st' := [vR 0]) (dg dc124 39 rfl) rfl rfl ?_
                      refine ex_getF (dg dc124 40 rfl) rfl (LOC.st (Nat.le_of_ble_eq_true rfl) rfl) rfl ?_
                      refine ex_getI (dg dc124 41 rfl) rfl (LOC.st (Nat.le_of_ble_eq_true rfl) rfl) rfl ?_
                      exact ex_ire (dg dc124 42 rfl) rfl hf
                    ·
                      refine ex_bif hf (fun hc_14 hf => ?_) (fun hc_14 hf => ?_)
                      · refine ex_tsw (t := 151) (dg dc124 1 rfl) hc_14 (by decide +kernel) rfl ⟨by decide, by decide, by decide⟩ rfl ?_
                        refine ex_pu (ls' := [vR 0, vI v1]) (st' := [vR 0]) (dg dc124 43 rfl) rfl rfl ?_
                        refine ex_getF (dg dc124 44 rfl) rfl (LOC.st (Nat.le_of_ble_eq_true rfl) rfl) rfl ?_
                        refine ex_getI (dg dc124 45 rfl) rfl (LOC.st (Nat.le_of_ble_eq_true rfl) rfl) rfl ?_
                        exact ex_ire (dg dc124 46 rfl) rfl hf
                      ·
                        refine ex_bif hf (fun hc_15 hf => ?_) (fun hc_15 hf => ?_)
                        · refine ex_tsw (t := 159) (dg dc124 1 rfl) hc_15 (by decide +kernel) rfl ⟨by decide, by decide, by decide⟩ rfl ?_
                          refine ex_pu (ls' := [vR 0, vI v1]) (st' := [vR 0]) (dg dc124 47 rfl) rfl rfl ?_
                          refine ex_getF (dg dc124 48 rfl) rfl (LOC.st (Nat.le_of_ble_eq_true rfl) rfl) rfl ?_
                          refine ex_pu (ls' := [vR 0, vI v1]) (st' := [vR 0, vR 3]) (dg dc124 49 rfl) rfl rfl ?_
                          refine ex_getF (dg dc124 50 rfl) rfl (LOC.st (Nat.le_of_ble_eq_true rfl) rfl) rfl ?_
                          refine ex_getI (dg dc124 51 rfl) rfl (LOC.st (Nat.le_of_ble_eq_true rfl) rfl) rfl ?_
                          refine ex_cI (vs := [vR 3, vI (M 23 4)]) (st' := []) (F := (land_worthOf 3 (M 23 4) M)) (Or.inr (Or.inl ⟨rfl, (dg dc124 52 rfl)⟩)) rfl rfl (rk1 (LOC.st (Nat.le_of_ble_eq_true rfl) rfl) rfl) rfl (fun _ r9 => land_worthOf_ok (Z := Z) (d := e9) (by omega) isLand3  r9) hf (fun z_18 M_17 he_16 hf => ?_)
                          exact ex_ire (dg dc124 53 rfl) rfl hf
                        ·
                          refine ex_bif hf (fun hc_19 hf => ?_) (fun hc_19 hf => ?_)
                          · refine ex_tsw (t := 174) (dg dc124 1 rfl) hc_19 (by decide +kernel) rfl ⟨by decide, by decide, by decide⟩ rfl ?_
                            refine ex_pu (ls' := [vR 0, vI v1]) (st' := [vR 0]) (dg dc124 54 rfl) rfl rfl ?_
                            refine ex_getF (dg dc124 55 rfl) rfl (LOC.st (Nat.le_of_ble_eq_true rfl) rfl) rfl ?_
                            refine ex_getI (dg dc124 56 rfl) rfl (LOC.st (Nat.le_of_ble_eq_true rfl) rfl) rfl ?_
                            exact ex_ire (dg dc124 57 rfl) rfl hf
                          · refine ex_tsd (t := 182) (dg dc124 1 rfl) (sw_out (lo := 0) (hi := 12) (fun j h1 h2 => by have hj : j = 0 ∨ j = 1 ∨ j = 2 ∨ j = 3 ∨ j = 4 ∨ j = 5 ∨ j = 6 ∨ j = 7 ∨ j = 8 ∨ j = 9 ∨ j = 10 ∨ j = 11 ∨ j = 12 := (by omega); rcases hj with rfl | rfl | rfl | rfl | rfl | rfl | rfl | rfl | rfl | rfl | rfl | rfl | rfl <;> first | exact ⟨hc_1, by decide +kernel⟩ | exact ⟨hc_2, by decide +kernel⟩ | exact ⟨hc_3, by decide +kernel⟩ | exact ⟨hc_4, by decide +kernel⟩ | exact ⟨hc_5, by decide +kernel⟩ | exact ⟨hc_9, by decide +kernel⟩ | exact ⟨hc_10, by decide +kernel⟩ | exact ⟨hc_11, by decide +kernel⟩ | exact ⟨hc_12, by decide +kernel⟩ | exact ⟨hc_13, by decide +kernel⟩ | exact ⟨hc_14, by decide +kernel⟩ | exact ⟨hc_15, by decide +kernel⟩ | exact ⟨hc_19, by decide +kernel⟩)) rfl ?_
                            refine ex_pu (ls' := [vR 0, vI v1]) (st' := [vI (-1)]) (dg dc124 58 rfl) rfl rfl ?_
                            exact ex_ire (dg dc124 59 rfl) rfl hf
-- GlassHill.delay
def il126 : List (Nat × Instr × Nat) := [(0, .iload_n 1, 1), (1, .iconst 1, 1), (2, .if_icmp .lt 9, 3), (5, .iload_n 1, 1), (6, .bipush 48, 2), (8, .if_icmp .le 14, 3), (11, .new 136, 3), (14, .dup, 1), (15, .ldc_w 342, 3), (18, .invokespecial 140, 3), (21, .athrow, 1), (22, .aload_n 0, 1), (23, .invokevirtual 257, 3), (26, .iconst 0, 1), (27, .istore_n 2, 1), (28, .iload_n 2, 1), (29, .iload_n 1, 1), (30, .if_icmp .ge 37, 3), (33, .aload_n 0, 1), (34, .getfield 19, 3), (37, .aload_n 0, 1), (38, .getfield 33, 3), (41, .getfield 260, 3), (44, .aload_n 0, 1), (45, .getfield 33, 3), (48, .getfield 263, 3), (51, .iload_n 2, 1), (52, .iadd, 1), (53, .iconst 1, 1), (54, .iadd, 1), (55, .invokevirtual 344, 3), (58, .ifCond .ne 9, 3), (61, .iinc 2 1, 3), (64, .goto (-36), 3), (67, .iload_n 2, 1), (68, .ifCond .ne 14, 3), (71, .new 278, 3), (74, .dup, 1), (75, .ldc_w 347, 3), (78, .invokespecial 282, 3), (81, .athrow, 1), (82, .aload_n 0, 1), (83, .invokevirtual 339, 3), (86, .aload_n 0, 1), (87, .getfield 33, 3), (90, .dup, 1), (91, .getfield 263, 3), (94, .iload_n 2, 1), (95, .iadd, 1), (96, .putfield 263, 3), (99, .iload_n 2, 1), (100, .ireturn, 1)]
theorem dc126 : dcs (mC 126) il126 := dc_of (by decide +kernel)
def gh_delay_L28  (v1 : Int) (K1 : Int → MM → OR) : Nat → Int → MM → OR
  | 0, _, _ => none
  | n + 1, v2, M => (bif cmpB .ge v2 v1 then (K1 v2 M) else (bI (land_eatsAt 3 (M 23 0) (((M 23 1) + v2) + 1) M) fun z_6 M_5 => (bif cmpB .ne z_6 0 then (K1 v2 M_5) else (gh_delay_L28 v1 K1 n (v2 + 1) M_5))))
set_option maxRecDepth 4000 in
theorem gh_delay_L28_ok {Z : Nat × (Nat → Int)} {d : Nat} (hd : 4 ≤ d)  {v1 : Int} {K1 : Int → MM → OR} {res : AR × MM} (k1 : ∀ (x2 : Int) (M : MM) (j1 : AV), K1 x2 M = some res → EX Z d 126 67 [vR 0, j1, vI x2] [] M res) : ∀ (n : Nat) (v2 : Int) (M : MM), gh_delay_L28 v1 K1 n v2 M = some res → EX Z d 126 28 [vR 0, vI v1, vI v2] [] M res := by
  obtain ⟨e9, rfl⟩ : ∃ e9, d = e9 + 1 := ⟨d - 1, by omega⟩
  intro n
  induction n with
  | zero =>
    intro v2 M hf
    unfold gh_delay_L28 at hf
    cases hf
  | succ n ih =>
    intro v2 M hf
    unfold gh_delay_L28 at hf
    refine ex_pu (ls' := [vR 0, vI v1, vI v2]) (st' := [vI v2]) (dg dc126 15 rfl) rfl rfl ?_
    refine ex_pu (ls' := [vR 0, vI v1, vI v2]) (st' := [vI v1, vI v2]) (dg dc126 16 rfl) rfl rfl ?_
    refine ex_icmp (t := 67) (dg dc126 17 rfl) rfl hf (fun _ hf => ?_) (fun _ hf => ?_)
    · exact k1 v2 M _ hf
    · refine ex_pu (ls' := [vR 0, vI v1, vI v2]) (st' := [vR 0]) (dg dc126 18 rfl) rfl rfl ?_
      refine ex_getF (dg dc126 19 rfl) rfl (LOC.st (Nat.le_of_ble_eq_true rfl) rfl) rfl ?_
      refine ex_pu (ls' := [vR 0, vI v1, vI v2]) (st' := [vR 0, vR 3]) (dg dc126 20 rfl) rfl rfl ?_
      refine ex_getF (dg dc126 21 rfl) rfl (LOC.st (Nat.le_of_ble_eq_true rfl) rfl) rfl ?_
      refine ex_getI (dg dc126 22 rfl) rfl (LOC.st (Nat.le_of_ble_eq_true rfl) rfl) rfl ?_
      refine ex_pu (ls' := [vR 0, vI v1, vI v2]) (st' := [vR 0, vI (M 23 0), vR 3]) (dg dc126 23 rfl) rfl rfl ?_
      refine ex_getF (dg dc126 24 rfl) rfl (LOC.st (Nat.le_of_ble_eq_true rfl) rfl) rfl ?_
      refine ex_getI (dg dc126 25 rfl) rfl (LOC.st (Nat.le_of_ble_eq_true rfl) rfl) rfl ?_
      refine ex_pu (ls' := [vR 0, vI v1, vI v2]) (st' := [vI v2, vI (M 23 1), vI (M 23 0), vR 3]) (dg dc126 26 rfl) rfl rfl ?_
      refine ex_pu (ls' := [vR 0, vI v1, vI v2]) (st' := [vI ((M 23 1) + v2), vI (M 23 0), vR 3]) (dg dc126 27 rfl) rfl rfl ?_
      refine ex_pu (ls' := [vR 0, vI v1, vI v2]) (st' := [vI 1, vI ((M 23 1) + v2), vI (M 23 0), vR 3]) (dg dc126 28 rfl) rfl rfl ?_
      refine ex_pu (ls' := [vR 0, vI v1, vI v2]) (st' := [vI (((M 23 1) + v2) + 1), vI (M 23 0), vR 3]) (dg dc126 29 rfl) rfl rfl ?_
      refine ex_cI (vs := [vR 3, vI (M 23 0), vI (((M 23 1) + v2) + 1)]) (st' := []) (F := (land_eatsAt 3 (M 23 0) (((M 23 1) + v2) + 1) M)) (Or.inr (Or.inl ⟨rfl, (dg dc126 30 rfl)⟩)) rfl rfl (rk1 (LOC.st (Nat.le_of_ble_eq_true rfl) rfl) rfl) rfl (fun _ r9 => land_eatsAt_ok (Z := Z) (d := e9) (by omega) isLand3  r9) hf (fun z_6 M_5 he_4 hf => ?_)
      refine ex_if (t := 67) (dg dc126 31 rfl) rfl hf (fun _ hf => ?_) (fun _ hf => ?_)
      · exact k1 v2 M_5 _ hf
      · refine ex_pu (ls' := [vR 0, vI v1, vI (v2 + 1)]) (st' := []) (dg dc126 32 rfl) rfl rfl ?_
        refine ex_goto (t := 28) (dg dc126 33 rfl) rfl rfl ?_
        exact ih (v2 + 1) M_5 hf
def gh_delay (v1 : Int) (M : MM) : OR :=
  (bif cmpB .lt v1 1 then thx 13 M else (bif cmpB .le v1 48 then (bV (gh_checkAnyPlace  M) fun M_2 => (gh_delay_L28 v1 (fun v2_7 M_8 => (bif cmpB .ne v2_7 0 then (bV (gh_rememberAct  M_8) fun M_11 => (sM (mU M_11 23 1 ((M_11 23 1) + v2_7)) fun M_13 => some (rI v2_7, M_13))) else thx 14 M_8)) FU 0 M_2)) else thx 13 M))
set_option maxRecDepth 4000 in
theorem gh_delay_ok {Z : Nat × (Nat → Int)} {d : Nat} (hd : 4 ≤ d) {M : MM}  {v1 : Int} {res : AR × MM} (hf : gh_delay v1 M = some res) : EX Z d 126 0 (ent 126 [vR 0, vI v1]) [] M res := by
  obtain ⟨e9, rfl⟩ : ∃ e9, d = e9 + 1 := ⟨d - 1, by omega⟩
  unfold gh_delay at hf
  show EX Z _ 126 0 [vR 0, vI v1, vU] [] M res
  refine ex_pu (ls' := [vR 0, vI v1, vU]) (st' := [vI v1]) (dg dc126 0 rfl) rfl rfl ?_
  refine ex_pu (ls' := [vR 0, vI v1, vU]) (st' := [vI 1, vI v1]) (dg dc126 1 rfl) rfl rfl ?_
  refine ex_icmp (t := 11) (dg dc126 2 rfl) rfl hf (fun _ hf => ?_) (fun _ hf => ?_)
  · exact ex_thr (ci := 13) (is := 342) (ic := 140) (ln := 10) (dg dc126 6 rfl) rfl (exN_ofW rfl (dg dc126 7 rfl) (dg dc126 8 rfl) (dg dc126 9 rfl) rfl rfl rfl) (dg dc126 10 rfl) rfl ⟨by decide, by decide⟩ hf
  · refine ex_pu (ls' := [vR 0, vI v1, vU]) (st' := [vI v1]) (dg dc126 3 rfl) rfl rfl ?_
    refine ex_pu (ls' := [vR 0, vI v1, vU]) (st' := [vI 48, vI v1]) (dg dc126 4 rfl) rfl rfl ?_
    refine ex_icmp (t := 22) (dg dc126 5 rfl) rfl hf (fun _ hf => ?_) (fun _ hf => ?_)
    · refine ex_pu (ls' := [vR 0, vI v1, vU]) (st' := [vR 0]) (dg dc126 11 rfl) rfl rfl ?_
      refine ex_cV (vs := [vR 0]) (st' := []) (F := (gh_checkAnyPlace  M)) (Or.inr (Or.inl ⟨rfl, (dg dc126 12 rfl)⟩)) rfl rfl (rk1 (LOC.st (Nat.le_of_ble_eq_true rfl) rfl) rfl) rfl (fun _ r9 => gh_checkAnyPlace_ok (Z := Z) (d := e9) (by omega)  r9) hf (fun M_2 he_1 hf => ?_)
      refine ex_pu (ls' := [vR 0, vI v1, vU]) (st' := [vI 0]) (dg dc126 13 rfl) rfl rfl ?_
      refine ex_pu (ls' := [vR 0, vI v1, vI 0]) (st' := []) (dg dc126 14 rfl) rfl rfl ?_
      refine gh_delay_L28_ok hd  ?_ FU 0 M_2 hf
      · intro v2_7 M_8 j1_9 hf
        refine ex_pu (ls' := [vR 0, j1_9, vI v2_7]) (st' := [vI v2_7]) (dg dc126 34 rfl) rfl rfl ?_
        refine ex_if (t := 82) (dg dc126 35 rfl) rfl hf (fun _ hf => ?_) (fun _ hf => ?_)
        · refine ex_pu (ls' := [vR 0, j1_9, vI v2_7]) (st' := [vR 0]) (dg dc126 41 rfl) rfl rfl ?_
          refine ex_cV (vs := [vR 0]) (st' := []) (F := (gh_rememberAct  M_8)) (Or.inr (Or.inl ⟨rfl, (dg dc126 42 rfl)⟩)) rfl rfl (rk1 (LOC.st (Nat.le_of_ble_eq_true rfl) rfl) rfl) rfl (fun _ r9 => gh_rememberAct_ok (Z := Z) (d := e9) (by omega)  r9) hf (fun M_11 he_10 hf => ?_)
          refine ex_pu (ls' := [vR 0, j1_9, vI v2_7]) (st' := [vR 0]) (dg dc126 43 rfl) rfl rfl ?_
          refine ex_getF (dg dc126 44 rfl) rfl (LOC.st (Nat.le_of_ble_eq_true rfl) rfl) rfl ?_
          refine ex_pu (ls' := [vR 0, j1_9, vI v2_7]) (st' := [vR 23, vR 23]) (dg dc126 45 rfl) rfl rfl ?_
          refine ex_getI (dg dc126 46 rfl) rfl (LOC.st (Nat.le_of_ble_eq_true rfl) rfl) rfl ?_
          refine ex_pu (ls' := [vR 0, j1_9, vI v2_7]) (st' := [vI v2_7, vI (M_11 23 1), vR 23]) (dg dc126 47 rfl) rfl rfl ?_
          refine ex_pu (ls' := [vR 0, j1_9, vI v2_7]) (st' := [vI ((M_11 23 1) + v2_7), vR 23]) (dg dc126 48 rfl) rfl rfl ?_
          refine ex_putI (dg dc126 49 rfl) rfl (LOC.st (Nat.le_of_ble_eq_true rfl) rfl) rfl rfl rfl ?_
          refine ex_gen hf (fun M_13 hM_14 hf => ?_)
          refine ex_pu (ls' := [vR 0, j1_9, vI v2_7]) (st' := [vI v2_7]) (dg dc126 50 rfl) rfl rfl ?_
          exact ex_ire (dg dc126 51 rfl) rfl hf
        · exact ex_thr (ci := 14) (is := 347) (ic := 282) (ln := 10) (dg dc126 36 rfl) rfl (exN_ofW rfl (dg dc126 37 rfl) (dg dc126 38 rfl) (dg dc126 39 rfl) rfl rfl rfl) (dg dc126 40 rfl) rfl ⟨by decide, by decide⟩ hf
    · exact ex_thr (ci := 13) (is := 342) (ic := 140) (ln := 10) (dg dc126 6 rfl) rfl (exN_ofW rfl (dg dc126 7 rfl) (dg dc126 8 rfl) (dg dc126 9 rfl) rfl rfl rfl) (dg dc126 10 rfl) rfl ⟨by decide, by decide⟩ hf
-- GlassHill.lay
def il129 : List (Nat × Instr × Nat) := [(0, .aload_n 0, 1), (1, .iload_n 1, 1), (2, .invokevirtual 212, 3), (5, .aload_n 0, 1), (6, .getfield 33, 3), (9, .getfield 269, 3), (12, .iload_n 1, 1), (13, .invokestatic 187, 3), (16, .ifCond .ne 14, 3), (19, .new 278, 3), (22, .dup, 1), (23, .ldc_w 369, 3), (26, .invokespecial 282, 3), (29, .athrow, 1), (30, .aload_n 0, 1), (31, .invokevirtual 339, 3), (34, .aload_n 0, 1), (35, .getfield 33, 3), (38, .dup, 1), (39, .getfield 269, 3), (42, .iconst 1, 1), (43, .iload_n 1, 1), (44, .ishl, 1), (45, .iconst (-1), 1), (46, .ixor, 1), (47, .iand, 1), (48, .putfield 269, 3), (51, .aload_n 0, 1), (52, .getfield 33, 3), (55, .getfield 224, 3), (58, .iload_n 1, 1), (59, .aload_n 0, 1), (60, .getfield 33, 3), (63, .getfield 260, 3), (66, .iastore, 1), (67, .aload_n 0, 1), (68, .getfield 33, 3), (71, .getfield 269, 3), (74, .invokestatic 328, 3), (77, .ireturn, 1)]
theorem dc129 : dcs (mC 129) il129 := dc_of (by decide +kernel)
def gh_lay (v1 : Int) (M : MM) : OR :=
  (bV (gh_checkThing v1 M) fun M_2 => (bI (gh_bit (M_2 23 3) v1 M_2) fun z_6 M_5 => (bif cmpB .ne z_6 0 then (bV (gh_rememberAct  M_5) fun M_8 => (sM (mU M_8 23 3 (iAnd (M_8 23 3) (iXor (iShl 1 v1) (-1)))) fun M_10 => (bif inB v1 10 then (sM (mU M_10 24 (v1).toNat (M_10 23 0)) fun M_12 => (bI (jdk_bitCount (M_12 23 3) M_12) fun z_16 M_15 => some (rI z_16, M_15))) else none))) else thx 14 M_5)))
set_option maxRecDepth 4000 in
theorem gh_lay_ok {Z : Nat × (Nat → Int)} {d : Nat} (hd : 4 ≤ d) {M : MM}  {v1 : Int} {res : AR × MM} (hf : gh_lay v1 M = some res) : EX Z d 129 0 (ent 129 [vR 0, vI v1]) [] M res := by
  obtain ⟨e9, rfl⟩ : ∃ e9, d = e9 + 1 := ⟨d - 1, by omega⟩
  unfold gh_lay at hf
  show EX Z _ 129 0 [vR 0, vI v1] [] M res
  refine ex_pu (ls' := [vR 0, vI v1]) (st' := [vR 0]) (dg dc129 0 rfl) rfl rfl ?_
  refine ex_pu (ls' := [vR 0, vI v1]) (st' := [vI v1, vR 0]) (dg dc129 1 rfl) rfl rfl ?_
  refine ex_cV (vs := [vR 0, vI v1]) (st' := []) (F := (gh_checkThing v1 M)) (Or.inr (Or.inl ⟨rfl, (dg dc129 2 rfl)⟩)) rfl rfl (rk1 (LOC.st (Nat.le_of_ble_eq_true rfl) rfl) rfl) rfl (fun _ r9 => gh_checkThing_ok (Z := Z) (d := e9) (by omega)  r9) hf (fun M_2 he_1 hf => ?_)
  refine ex_pu (ls' := [vR 0, vI v1]) (st' := [vR 0]) (dg dc129 3 rfl) rfl rfl ?_
  refine ex_getF (dg dc129 4 rfl) rfl (LOC.st (Nat.le_of_ble_eq_true rfl) rfl) rfl ?_
  refine ex_getI (dg dc129 5 rfl) rfl (LOC.st (Nat.le_of_ble_eq_true rfl) rfl) rfl ?_
  refine ex_pu (ls' := [vR 0, vI v1]) (st' := [vI v1, vI (M_2 23 3)]) (dg dc129 6 rfl) rfl rfl ?_
  refine ex_cI (vs := [vI (M_2 23 3), vI v1]) (st' := []) (F := (gh_bit (M_2 23 3) v1 M_2)) (Or.inl ⟨rfl, (dg dc129 7 rfl)⟩) rfl rfl (Or.inl rfl) rfl (fun _ r9 => gh_bit_ok (Z := Z) (d := e9) (by omega)  r9) hf (fun z_6 M_5 he_4 hf => ?_)
  refine ex_if (t := 30) (dg dc129 8 rfl) rfl hf (fun _ hf => ?_) (fun _ hf => ?_)
  · refine ex_pu (ls' := [vR 0, vI v1]) (st' := [vR 0]) (dg dc129 14 rfl) rfl rfl ?_
    refine ex_cV (vs := [vR 0]) (st' := []) (F := (gh_rememberAct  M_5)) (Or.inr (Or.inl ⟨rfl, (dg dc129 15 rfl)⟩)) rfl rfl (rk1 (LOC.st (Nat.le_of_ble_eq_true rfl) rfl) rfl) rfl (fun _ r9 => gh_rememberAct_ok (Z := Z) (d := e9) (by omega)  r9) hf (fun M_8 he_7 hf => ?_)
    refine ex_pu (ls' := [vR 0, vI v1]) (st' := [vR 0]) (dg dc129 16 rfl) rfl rfl ?_
    refine ex_getF (dg dc129 17 rfl) rfl (LOC.st (Nat.le_of_ble_eq_true rfl) rfl) rfl ?_
    refine ex_pu (ls' := [vR 0, vI v1]) (st' := [vR 23, vR 23]) (dg dc129 18 rfl) rfl rfl ?_
    refine ex_getI (dg dc129 19 rfl) rfl (LOC.st (Nat.le_of_ble_eq_true rfl) rfl) rfl ?_
    refine ex_pu (ls' := [vR 0, vI v1]) (st' := [vI 1, vI (M_8 23 3), vR 23]) (dg dc129 20 rfl) rfl rfl ?_
    refine ex_pu (ls' := [vR 0, vI v1]) (st' := [vI v1, vI 1, vI (M_8 23 3), vR 23]) (dg dc129 21 rfl) rfl rfl ?_
    refine ex_pu (ls' := [vR 0, vI v1]) (st' := [vI (iShl 1 v1), vI (M_8 23 3), vR 23]) (dg dc129 22 rfl) rfl rfl ?_
    refine ex_pu (ls' := [vR 0, vI v1]) (st' := [vI (-1), vI (iShl 1 v1), vI (M_8 23 3), vR 23]) (dg dc129 23 rfl) rfl rfl ?_
    refine ex_pu (ls' := [vR 0, vI v1]) (st' := [vI (iXor (iShl 1 v1) (-1)), vI (M_8 23 3), vR 23]) (dg dc129 24 rfl) rfl rfl ?_
    refine ex_pu (ls' := [vR 0, vI v1]) (st' := [vI (iAnd (M_8 23 3) (iXor (iShl 1 v1) (-1))), vR 23]) (dg dc129 25 rfl) rfl rfl ?_
    refine ex_putI (dg dc129 26 rfl) rfl (LOC.st (Nat.le_of_ble_eq_true rfl) rfl) rfl rfl rfl ?_
    refine ex_gen hf (fun M_10 hM_11 hf => ?_)
    refine ex_pu (ls' := [vR 0, vI v1]) (st' := [vR 0]) (dg dc129 27 rfl) rfl rfl ?_
    refine ex_getF (dg dc129 28 rfl) rfl (LOC.st (Nat.le_of_ble_eq_true rfl) rfl) rfl ?_
    refine ex_getO (dg dc129 29 rfl) rfl (LOC.st (Nat.le_of_ble_eq_true rfl) rfl) rfl ?_
    show EX Z _ 129 _ [vR 0, vI v1] [vR 24] _ _
    refine ex_pu (ls' := [vR 0, vI v1]) (st' := [vI v1, vR 24]) (dg dc129 30 rfl) rfl rfl ?_
    refine ex_pu (ls' := [vR 0, vI v1]) (st' := [vR 0, vI v1, vR 24]) (dg dc129 31 rfl) rfl rfl ?_
    refine ex_getF (dg dc129 32 rfl) rfl (LOC.st (Nat.le_of_ble_eq_true rfl) rfl) rfl ?_
    refine ex_getI (dg dc129 33 rfl) rfl (LOC.st (Nat.le_of_ble_eq_true rfl) rfl) rfl ?_
    refine ex_iast (dg dc129 34 rfl) (LOC.st (Nat.le_of_ble_eq_true rfl) rfl) rfl rfl hf (fun _ hf => ?_)
    refine ex_gen hf (fun M_12 hM_13 hf => ?_)
    refine ex_pu (ls' := [vR 0, vI v1]) (st' := [vR 0]) (dg dc129 35 rfl) rfl rfl ?_
    refine ex_getF (dg dc129 36 rfl) rfl (LOC.st (Nat.le_of_ble_eq_true rfl) rfl) rfl ?_
    refine ex_getI (dg dc129 37 rfl) rfl (LOC.st (Nat.le_of_ble_eq_true rfl) rfl) rfl ?_
    refine ex_cI (vs := [vI (M_12 23 3)]) (st' := []) (F := (jdk_bitCount (M_12 23 3) M_12)) (Or.inl ⟨rfl, (dg dc129 38 rfl)⟩) rfl rfl (Or.inl rfl) rfl (fun _ r9 => jdk_bitCount_ok (Z := Z) (d := e9) (by omega)  r9) hf (fun z_16 M_15 he_14 hf => ?_)
    exact ex_ire (dg dc129 39 rfl) rfl hf
  · exact ex_thr (ci := 14) (is := 369) (ic := 282) (ln := 10) (dg dc129 9 rfl) rfl (exN_ofW rfl (dg dc129 10 rfl) (dg dc129 11 rfl) (dg dc129 12 rfl) rfl rfl rfl) (dg dc129 13 rfl) rfl ⟨by decide, by decide⟩ hf
-- GlassHill.free
def il130 : List (Nat × Instr × Nat) := [(0, .aload_n 0, 1), (1, .iload_n 1, 1), (2, .invokevirtual 239, 3), (5, .aload_n 0, 1), (6, .getfield 19, 3), (9, .getfield 242, 3), (12, .iload_n 1, 1), (13, .iaload, 1), (14, .aload_n 0, 1), (15, .getfield 33, 3), (18, .getfield 260, 3), (21, .if_icmp .ne 40, 3), (24, .aload_n 0, 1), (25, .getfield 33, 3), (28, .getfield 251, 3), (31, .iload_n 1, 1), (32, .invokestatic 187, 3), (35, .iconst 1, 1), (36, .if_icmp .eq 25, 3), (39, .aload_n 0, 1), (40, .getfield 19, 3), (43, .bipush 10, 2), (45, .iload_n 1, 1), (46, .iadd, 1), (47, .invokevirtual 371, 3), (50, .aload_n 0, 1), (51, .getfield 33, 3), (54, .getfield 269, 3), (57, .iand, 1), (58, .ifCond .ne 14, 3), (61, .new 278, 3), (64, .dup, 1), (65, .ldc_w 374, 3), (68, .invokespecial 282, 3), (71, .athrow, 1), (72, .aload_n 0, 1), (73, .invokevirtual 339, 3), (76, .aload_n 0, 1), (77, .getfield 33, 3), (80, .dup, 1), (81, .getfield 251, 3), (84, .iconst 1, 1), (85, .iload_n 1, 1), (86, .ishl, 1), (87, .ior, 1), (88, .putfield 251, 3), (91, .aload_n 0, 1), (92, .getfield 33, 3), (95, .getfield 254, 3), (98, .iload_n 1, 1), (99, .aload_n 0, 1), (100, .getfield 33, 3), (103, .getfield 263, 3), (106, .iastore, 1), (107, .aload_n 0, 1), (108, .getfield 33, 3), (111, .getfield 251, 3), (114, .invokestatic 328, 3), (117, .ireturn, 1)]
theorem dc130 : dcs (mC 130) il130 := dc_of (by decide +kernel)
def gh_free (v1 : Int) (M : MM) : OR :=
  (bV (gh_checkBrother v1 M) fun M_2 => (bif inB v1 7 then (bif cmpB .ne (M_2 14 (v1).toNat) (M_2 23 0) then thx 14 M_2 else (bI (gh_bit (M_2 23 7) v1 M_2) fun z_6 M_5 => (bif cmpB .eq z_6 1 then thx 14 M_5 else (bI (land_openers 3 (10 + v1) M_5) fun z_9 M_8 => (bif cmpB .ne (iAnd z_9 (M_8 23 3)) 0 then (bV (gh_rememberAct  M_8) fun M_11 => (sM (mU M_11 23 7 (iOr (M_11 23 7) (iShl 1 v1))) fun M_13 => (bif inB v1 7 then (sM (mU M_13 25 (v1).toNat (M_13 23 1)) fun M_15 => (bI (jdk_bitCount (M_15 23 7) M_15) fun z_19 M_18 => some (rI z_19, M_18))) else none))) else thx 14 M_8))))) else none))
set_option maxRecDepth 4000 in
theorem gh_free_ok {Z : Nat × (Nat → Int)} {d : Nat} (hd : 4 ≤ d) {M : MM}  {v1 : Int} {res : AR × MM} (hf : gh_free v1 M = some res) : EX Z d 130 0 (ent 130 [vR 0, vI v1]) [] M res := by
  obtain ⟨e9, rfl⟩ : ∃ e9, d = e9 + 1 := ⟨d - 1, by omega⟩
  unfold gh_free at hf
  show EX Z _ 130 0 [vR 0, vI v1] [] M res
  refine ex_pu (ls' := [vR 0, vI v1]) (st' := [vR 0]) (dg dc130 0 rfl) rfl rfl ?_
  refine ex_pu (ls' := [vR 0, vI v1]) (st' := [vI v1, vR 0]) (dg dc130 1 rfl) rfl rfl ?_
  refine ex_cV (vs := [vR 0, vI v1]) (st' := []) (F := (gh_checkBrother v1 M)) (Or.inr (Or.inl ⟨rfl, (dg dc130 2 rfl)⟩)) rfl rfl (rk1 (LOC.st (Nat.le_of_ble_eq_true rfl) rfl) rfl) rfl (fun _ r9 => gh_checkBrother_ok (Z := Z) (d := e9) (by omega)  r9) hf (fun M_2 he_1 hf => ?_)
  refine ex_pu (ls' := [vR 0, vI v1]) (st' := [vR 0]) (dg dc130 3 rfl) rfl rfl ?_
  refine ex_getF (dg dc130 4 rfl) rfl (LOC.st (Nat.le_of_ble_eq_true rfl) rfl) rfl ?_
  refine ex_getO (dg dc130 5 rfl) rfl (LOC.st (Nat.le_of_ble_eq_true rfl) rfl) rfl ?_
  show EX Z _ 130 _ [vR 0, vI v1] [vR 14] _ _
  refine ex_pu (ls' := [vR 0, vI v1]) (st' := [vI v1, vR 14]) (dg dc130 6 rfl) rfl rfl ?_
  refine ex_iald (dg dc130 7 rfl) (LOC.st (Nat.le_of_ble_eq_true rfl) rfl) rfl hf (fun _ hf => ?_)
  refine ex_pu (ls' := [vR 0, vI v1]) (st' := [vR 0, vI (M_2 14 (v1).toNat)]) (dg dc130 8 rfl) rfl rfl ?_
  refine ex_getF (dg dc130 9 rfl) rfl (LOC.st (Nat.le_of_ble_eq_true rfl) rfl) rfl ?_
  refine ex_getI (dg dc130 10 rfl) rfl (LOC.st (Nat.le_of_ble_eq_true rfl) rfl) rfl ?_
  refine ex_icmp (t := 61) (dg dc130 11 rfl) rfl hf (fun _ hf => ?_) (fun _ hf => ?_)
  · exact ex_thr (ci := 14) (is := 374) (ic := 282) (ln := 10) (dg dc130 30 rfl) rfl (exN_ofW rfl (dg dc130 31 rfl) (dg dc130 32 rfl) (dg dc130 33 rfl) rfl rfl rfl) (dg dc130 34 rfl) rfl ⟨by decide, by decide⟩ hf
  · refine ex_pu (ls' := [vR 0, vI v1]) (st' := [vR 0]) (dg dc130 12 rfl) rfl rfl ?_
    refine ex_getF (dg dc130 13 rfl) rfl (LOC.st (Nat.le_of_ble_eq_true rfl) rfl) rfl ?_
    refine ex_getI (dg dc130 14 rfl) rfl (LOC.st (Nat.le_of_ble_eq_true rfl) rfl) rfl ?_
    refine ex_pu (ls' := [vR 0, vI v1]) (st' := [vI v1, vI (M_2 23 7)]) (dg dc130 15 rfl) rfl rfl ?_
    refine ex_cI (vs := [vI (M_2 23 7), vI v1]) (st' := []) (F := (gh_bit (M_2 23 7) v1 M_2)) (Or.inl ⟨rfl, (dg dc130 16 rfl)⟩) rfl rfl (Or.inl rfl) rfl (fun _ r9 => gh_bit_ok (Z := Z) (d := e9) (by omega)  r9) hf (fun z_6 M_5 he_4 hf => ?_)
    refine ex_pu (ls' := [vR 0, vI v1]) (st' := [vI 1, vI z_6]) (dg dc130 17 rfl) rfl rfl ?_
    refine ex_icmp (t := 61) (dg dc130 18 rfl) rfl hf (fun _ hf => ?_) (fun _ hf => ?_)
    · exact ex_thr (ci := 14) (is := 374) (ic := 282) (ln := 10) (dg dc130 30 rfl) rfl (exN_ofW rfl (dg dc130 31 rfl) (dg dc130 32 rfl) (dg dc130 33 rfl) rfl rfl rfl) (dg dc130 34 rfl) rfl ⟨by decide, by decide⟩ hf
    · refine ex_pu (ls' := [vR 0, vI v1]) (st' := [vR 0]) (dg dc130 19 rfl) rfl rfl ?_
      refine ex_getF (dg dc130 20 rfl) rfl (LOC.st (Nat.le_of_ble_eq_true rfl) rfl) rfl ?_
      refine ex_pu (ls' := [vR 0, vI v1]) (st' := [vI 10, vR 3]) (dg dc130 21 rfl) rfl rfl ?_
      refine ex_pu (ls' := [vR 0, vI v1]) (st' := [vI v1, vI 10, vR 3]) (dg dc130 22 rfl) rfl rfl ?_
      refine ex_pu (ls' := [vR 0, vI v1]) (st' := [vI (10 + v1), vR 3]) (dg dc130 23 rfl) rfl rfl ?_
      refine ex_cI (vs := [vR 3, vI (10 + v1)]) (st' := []) (F := (land_openers 3 (10 + v1) M_5)) (Or.inr (Or.inl ⟨rfl, (dg dc130 24 rfl)⟩)) rfl rfl (rk1 (LOC.st (Nat.le_of_ble_eq_true rfl) rfl) rfl) rfl (fun _ r9 => land_openers_ok (Z := Z) (d := e9) (by omega) isLand3  r9) hf (fun z_9 M_8 he_7 hf => ?_)
      refine ex_pu (ls' := [vR 0, vI v1]) (st' := [vR 0, vI z_9]) (dg dc130 25 rfl) rfl rfl ?_
      refine ex_getF (dg dc130 26 rfl) rfl (LOC.st (Nat.le_of_ble_eq_true rfl) rfl) rfl ?_
      refine ex_getI (dg dc130 27 rfl) rfl (LOC.st (Nat.le_of_ble_eq_true rfl) rfl) rfl ?_
      refine ex_pu (ls' := [vR 0, vI v1]) (st' := [vI (iAnd z_9 (M_8 23 3))]) (dg dc130 28 rfl) rfl rfl ?_
      refine ex_if (t := 72) (dg dc130 29 rfl) rfl hf (fun _ hf => ?_) (fun _ hf => ?_)
      · refine ex_pu (ls' := [vR 0, vI v1]) (st' := [vR 0]) (dg dc130 35 rfl) rfl rfl ?_
        refine ex_cV (vs := [vR 0]) (st' := []) (F := (gh_rememberAct  M_8)) (Or.inr (Or.inl ⟨rfl, (dg dc130 36 rfl)⟩)) rfl rfl (rk1 (LOC.st (Nat.le_of_ble_eq_true rfl) rfl) rfl) rfl (fun _ r9 => gh_rememberAct_ok (Z := Z) (d := e9) (by omega)  r9) hf (fun M_11 he_10 hf => ?_)
        refine ex_pu (ls' := [vR 0, vI v1]) (st' := [vR 0]) (dg dc130 37 rfl) rfl rfl ?_
        refine ex_getF (dg dc130 38 rfl) rfl (LOC.st (Nat.le_of_ble_eq_true rfl) rfl) rfl ?_
        refine ex_pu (ls' := [vR 0, vI v1]) (st' := [vR 23, vR 23]) (dg dc130 39 rfl) rfl rfl ?_
        refine ex_getI (dg dc130 40 rfl) rfl (LOC.st (Nat.le_of_ble_eq_true rfl) rfl) rfl ?_
        refine ex_pu (ls' := [vR 0, vI v1]) (st' := [vI 1, vI (M_11 23 7), vR 23]) (dg dc130 41 rfl) rfl rfl ?_
        refine ex_pu (ls' := [vR 0, vI v1]) (st' := [vI v1, vI 1, vI (M_11 23 7), vR 23]) (dg dc130 42 rfl) rfl rfl ?_
        refine ex_pu (ls' := [vR 0, vI v1]) (st' := [vI (iShl 1 v1), vI (M_11 23 7), vR 23]) (dg dc130 43 rfl) rfl rfl ?_
        refine ex_pu (ls' := [vR 0, vI v1]) (st' := [vI (iOr (M_11 23 7) (iShl 1 v1)), vR 23]) (dg dc130 44 rfl) rfl rfl ?_
        refine ex_putI (dg dc130 45 rfl) rfl (LOC.st (Nat.le_of_ble_eq_true rfl) rfl) rfl rfl rfl ?_
        refine ex_gen hf (fun M_13 hM_14 hf => ?_)
        refine ex_pu (ls' := [vR 0, vI v1]) (st' := [vR 0]) (dg dc130 46 rfl) rfl rfl ?_
        refine ex_getF (dg dc130 47 rfl) rfl (LOC.st (Nat.le_of_ble_eq_true rfl) rfl) rfl ?_
        refine ex_getO (dg dc130 48 rfl) rfl (LOC.st (Nat.le_of_ble_eq_true rfl) rfl) rfl ?_
        show EX Z _ 130 _ [vR 0, vI v1] [vR 25] _ _
        refine ex_pu (ls' := [vR 0, vI v1]) (st' := [vI v1, vR 25]) (dg dc130 49 rfl) rfl rfl ?_
        refine ex_pu (ls' := [vR 0, vI v1]) (st' := [vR 0, vI v1, vR 25]) (dg dc130 50 rfl) rfl rfl ?_
        refine ex_getF (dg dc130 51 rfl) rfl (LOC.st (Nat.le_of_ble_eq_true rfl) rfl) rfl ?_
        refine ex_getI (dg dc130 52 rfl) rfl (LOC.st (Nat.le_of_ble_eq_true rfl) rfl) rfl ?_
        refine ex_iast (dg dc130 53 rfl) (LOC.st (Nat.le_of_ble_eq_true rfl) rfl) rfl rfl hf (fun _ hf => ?_)
        refine ex_gen hf (fun M_15 hM_16 hf => ?_)
        refine ex_pu (ls' := [vR 0, vI v1]) (st' := [vR 0]) (dg dc130 54 rfl) rfl rfl ?_
        refine ex_getF (dg dc130 55 rfl) rfl (LOC.st (Nat.le_of_ble_eq_true rfl) rfl) rfl ?_
        refine ex_getI (dg dc130 56 rfl) rfl (LOC.st (Nat.le_of_ble_eq_true rfl) rfl) rfl ?_
        refine ex_cI (vs := [vI (M_15 23 7)]) (st' := []) (F := (jdk_bitCount (M_15 23 7) M_15)) (Or.inl ⟨rfl, (dg dc130 57 rfl)⟩) rfl rfl (Or.inl rfl) rfl (fun _ r9 => jdk_bitCount_ok (Z := Z) (d := e9) (by omega)  r9) hf (fun z_19 M_18 he_17 hf => ?_)
        exact ex_ire (dg dc130 58 rfl) rfl hf
      · exact ex_thr (ci := 14) (is := 374) (ic := 282) (ln := 10) (dg dc130 30 rfl) rfl (exN_ofW rfl (dg dc130 31 rfl) (dg dc130 32 rfl) (dg dc130 33 rfl) rfl rfl rfl) (dg dc130 34 rfl) rfl ⟨by decide, by decide⟩ hf
-- GlassHill.back
def il133 : List (Nat × Instr × Nat) := [(0, .aload_n 0, 1), (1, .getfield 55, 3), (4, .ifCond .ne 5, 3), (7, .iconst 0, 1), (8, .ireturn, 1), (9, .aload_n 0, 1), (10, .getfield 19, 3), (13, .aload_n 0, 1), (14, .getfield 46, 3), (17, .invokevirtual 126, 3), (20, .aload_n 0, 1), (21, .getfield 26, 3), (24, .aload_n 0, 1), (25, .getfield 49, 3), (28, .invokevirtual 155, 3), (31, .aload_n 0, 1), (32, .getfield 33, 3), (35, .aload_n 0, 1), (36, .getfield 52, 3), (39, .invokevirtual 129, 3), (42, .aload_n 0, 1), (43, .invokevirtual 151, 3), (46, .iconst 1, 1), (47, .ireturn, 1)]
theorem dc133 : dcs (mC 133) il133 := dc_of (by decide +kernel)
def gh_back  (M : MM) : OR :=
  (bif cmpB .ne (M 0 10) 0 then (bV (land_copyFrom 3 55 M) fun M_2 => (bV (law_copyFrom 17 69 M_2) fun M_5 => (bV (jny_copyFrom 23 75 M_5) fun M_8 => (bV (gh_forgetActs  M_8) fun M_11 => some (rI 1, M_11))))) else some (rI 0, M))
set_option maxRecDepth 4000 in
theorem gh_back_ok {Z : Nat × (Nat → Int)} {d : Nat} (hd : 2 ≤ d) {M : MM}  {res : AR × MM} (hf : gh_back  M = some res) : EX Z d 133 0 (ent 133 [vR 0]) [] M res := by
  obtain ⟨e9, rfl⟩ : ∃ e9, d = e9 + 1 := ⟨d - 1, by omega⟩
  unfold gh_back at hf
  show EX Z _ 133 0 [vR 0] [] M res
  refine ex_pu (ls' := [vR 0]) (st' := [vR 0]) (dg dc133 0 rfl) rfl rfl ?_
  refine ex_getI (dg dc133 1 rfl) rfl (LOC.st (Nat.le_of_ble_eq_true rfl) rfl) rfl ?_
  refine ex_if (t := 9) (dg dc133 2 rfl) rfl hf (fun _ hf => ?_) (fun _ hf => ?_)
  · refine ex_pu (ls' := [vR 0]) (st' := [vR 0]) (dg dc133 5 rfl) rfl rfl ?_
    refine ex_getF (dg dc133 6 rfl) rfl (LOC.st (Nat.le_of_ble_eq_true rfl) rfl) rfl ?_
    refine ex_pu (ls' := [vR 0]) (st' := [vR 0, vR 3]) (dg dc133 7 rfl) rfl rfl ?_
    refine ex_getF (dg dc133 8 rfl) rfl (LOC.st (Nat.le_of_ble_eq_true rfl) rfl) rfl ?_
    refine ex_cV (vs := [vR 3, vR 55]) (st' := []) (F := (land_copyFrom 3 55 M)) (Or.inr (Or.inl ⟨rfl, (dg dc133 9 rfl)⟩)) rfl rfl (rk1 (LOC.st (Nat.le_of_ble_eq_true rfl) rfl) rfl) rfl (fun _ r9 => land_copyFrom_ok (Z := Z) (d := e9) (by omega) isLand3 isLand55  r9) hf (fun M_2 he_1 hf => ?_)
    refine ex_pu (ls' := [vR 0]) (st' := [vR 0]) (dg dc133 10 rfl) rfl rfl ?_
    refine ex_getF (dg dc133 11 rfl) rfl (LOC.st (Nat.le_of_ble_eq_true rfl) rfl) rfl ?_
    refine ex_pu (ls' := [vR 0]) (st' := [vR 0, vR 17]) (dg dc133 12 rfl) rfl rfl ?_
    refine ex_getF (dg dc133 13 rfl) rfl (LOC.st (Nat.le_of_ble_eq_true rfl) rfl) rfl ?_
    refine ex_cV (vs := [vR 17, vR 69]) (st' := []) (F := (law_copyFrom 17 69 M_2)) (Or.inr (Or.inl ⟨rfl, (dg dc133 14 rfl)⟩)) rfl rfl (rk1 (LOC.st (Nat.le_of_ble_eq_true rfl) rfl) rfl) rfl (fun _ r9 => law_copyFrom_ok (Z := Z) (d := e9) (by omega) isLaw17 isLaw69  r9) hf (fun M_5 he_4 hf => ?_)
    refine ex_pu (ls' := [vR 0]) (st' := [vR 0]) (dg dc133 15 rfl) rfl rfl ?_
    refine ex_getF (dg dc133 16 rfl) rfl (LOC.st (Nat.le_of_ble_eq_true rfl) rfl) rfl ?_
    refine ex_pu (ls' := [vR 0]) (st' := [vR 0, vR 23]) (dg dc133 17 rfl) rfl rfl ?_
    refine ex_getF (dg dc133 18 rfl) rfl (LOC.st (Nat.le_of_ble_eq_true rfl) rfl) rfl ?_
    refine ex_cV (vs := [vR 23, vR 75]) (st' := []) (F := (jny_copyFrom 23 75 M_5)) (Or.inr (Or.inl ⟨rfl, (dg dc133 19 rfl)⟩)) rfl rfl (rk1 (LOC.st (Nat.le_of_ble_eq_true rfl) rfl) rfl) rfl (fun _ r9 => jny_copyFrom_ok (Z := Z) (d := e9) (by omega) isJny23 isJny75  r9) hf (fun M_8 he_7 hf => ?_)
    refine ex_pu (ls' := [vR 0]) (st' := [vR 0]) (dg dc133 20 rfl) rfl rfl ?_
    refine ex_cV (vs := [vR 0]) (st' := []) (F := (gh_forgetActs  M_8)) (Or.inr (Or.inl ⟨rfl, (dg dc133 21 rfl)⟩)) rfl rfl (rk1 (LOC.st (Nat.le_of_ble_eq_true rfl) rfl) rfl) rfl (fun _ r9 => gh_forgetActs_ok (Z := Z) (d := e9) (by omega)  r9) hf (fun M_11 he_10 hf => ?_)
    refine ex_pu (ls' := [vR 0]) (st' := [vI 1]) (dg dc133 22 rfl) rfl rfl ?_
    exact ex_ire (dg dc133 23 rfl) rfl hf
  · refine ex_pu (ls' := [vR 0]) (st' := [vI 0]) (dg dc133 3 rfl) rfl rfl ?_
    exact ex_ire (dg dc133 4 rfl) rfl hf
-- GlassHill.isShut
def il141 : List (Nat × Instr × Nat) := [(0, .iload_n 1, 1), (1, .bipush 10, 2), (3, .if_icmp .ge 19, 3), (6, .aload_n 0, 1), (7, .getfield 19, 3), (10, .iload_n 1, 1), (11, .aload_n 0, 1), (12, .getfield 33, 3), (15, .getfield 195, 3), (18, .invokevirtual 349, 3), (21, .ireturn, 1), (22, .iload_n 1, 1), (23, .bipush 10, 2), (25, .isub, 1), (26, .istore_n 2, 1), (27, .iload_n 2, 1), (28, .aload_n 0, 1), (29, .getfield 19, 3), (32, .getfield 322, 3), (35, .if_icmp .ge 21, 3), (38, .aload_n 0, 1), (39, .getfield 33, 3), (42, .getfield 251, 3), (45, .iload_n 2, 1), (46, .invokestatic 187, 3), (49, .ifCond .ne 7, 3), (52, .iconst 1, 1), (53, .goto 4, 3), (56, .iconst 0, 1), (57, .ireturn, 1)]
theorem dc141 : dcs (mC 141) il141 := dc_of (by decide +kernel)
def gh_isShut (v1 : Int) (M : MM) : OR :=
  (bif cmpB .ge v1 10 then (bif cmpB .ge (v1 - 10) (M 3 3) then some (rI 0, M) else (bI (gh_bit (M 23 7) (v1 - 10) M) fun z_3 M_2 => (bif cmpB .ne z_3 0 then some (rI 0, M_2) else some (rI 1, M_2)))) else (bI (land_isHeldBy 3 v1 (M 23 6) M) fun z_6 M_5 => (bif zo z_6 then some (rI z_6, M_5) else none)))
set_option maxRecDepth 4000 in
theorem gh_isShut_ok {Z : Nat × (Nat → Int)} {d : Nat} (hd : 2 ≤ d) {M : MM}  {v1 : Int} {res : AR × MM} (hf : gh_isShut v1 M = some res) : EX Z d 141 0 (ent 141 [vR 0, vI v1]) [] M res := by
  obtain ⟨e9, rfl⟩ : ∃ e9, d = e9 + 1 := ⟨d - 1, by omega⟩
  unfold gh_isShut at hf
  show EX Z _ 141 0 [vR 0, vI v1, vU] [] M res
  refine ex_pu (ls' := [vR 0, vI v1, vU]) (st' := [vI v1]) (dg dc141 0 rfl) rfl rfl ?_
  refine ex_pu (ls' := [vR 0, vI v1, vU]) (st' := [vI 10, vI v1]) (dg dc141 1 rfl) rfl rfl ?_
  refine ex_icmp (t := 22) (dg dc141 2 rfl) rfl hf (fun _ hf => ?_) (fun _ hf => ?_)
  · refine ex_pu (ls' := [vR 0, vI v1, vU]) (st' := [vI v1]) (dg dc141 11 rfl) rfl rfl ?_
    refine ex_pu (ls' := [vR 0, vI v1, vU]) (st' := [vI 10, vI v1]) (dg dc141 12 rfl) rfl rfl ?_
    refine ex_pu (ls' := [vR 0, vI v1, vU]) (st' := [vI (v1 - 10)]) (dg dc141 13 rfl) rfl rfl ?_
    refine ex_pu (ls' := [vR 0, vI v1, vI (v1 - 10)]) (st' := []) (dg dc141 14 rfl) rfl rfl ?_
    refine ex_pu (ls' := [vR 0, vI v1, vI (v1 - 10)]) (st' := [vI (v1 - 10)]) (dg dc141 15 rfl) rfl rfl ?_
    refine ex_pu (ls' := [vR 0, vI v1, vI (v1 - 10)]) (st' := [vR 0, vI (v1 - 10)]) (dg dc141 16 rfl) rfl rfl ?_
    refine ex_getF (dg dc141 17 rfl) rfl (LOC.st (Nat.le_of_ble_eq_true rfl) rfl) rfl ?_
    refine ex_getI (dg dc141 18 rfl) rfl (LOC.st (Nat.le_of_ble_eq_true rfl) rfl) rfl ?_
    refine ex_icmp (t := 56) (dg dc141 19 rfl) rfl hf (fun _ hf => ?_) (fun _ hf => ?_)
    · refine ex_pu (ls' := [vR 0, vI v1, vI (v1 - 10)]) (st' := [vI 0]) (dg dc141 28 rfl) rfl rfl ?_
      exact ex_ire (dg dc141 29 rfl) rfl hf
    · refine ex_pu (ls' := [vR 0, vI v1, vI (v1 - 10)]) (st' := [vR 0]) (dg dc141 20 rfl) rfl rfl ?_
      refine ex_getF (dg dc141 21 rfl) rfl (LOC.st (Nat.le_of_ble_eq_true rfl) rfl) rfl ?_
      refine ex_getI (dg dc141 22 rfl) rfl (LOC.st (Nat.le_of_ble_eq_true rfl) rfl) rfl ?_
      refine ex_pu (ls' := [vR 0, vI v1, vI (v1 - 10)]) (st' := [vI (v1 - 10), vI (M 23 7)]) (dg dc141 23 rfl) rfl rfl ?_
      refine ex_cI (vs := [vI (M 23 7), vI (v1 - 10)]) (st' := []) (F := (gh_bit (M 23 7) (v1 - 10) M)) (Or.inl ⟨rfl, (dg dc141 24 rfl)⟩) rfl rfl (Or.inl rfl) rfl (fun _ r9 => gh_bit_ok (Z := Z) (d := e9) (by omega)  r9) hf (fun z_3 M_2 he_1 hf => ?_)
      refine ex_if (t := 56) (dg dc141 25 rfl) rfl hf (fun _ hf => ?_) (fun _ hf => ?_)
      · refine ex_pu (ls' := [vR 0, vI v1, vI (v1 - 10)]) (st' := [vI 0]) (dg dc141 28 rfl) rfl rfl ?_
        exact ex_ire (dg dc141 29 rfl) rfl hf
      · refine ex_pu (ls' := [vR 0, vI v1, vI (v1 - 10)]) (st' := [vI 1]) (dg dc141 26 rfl) rfl rfl ?_
        refine ex_goto (t := 57) (dg dc141 27 rfl) rfl rfl ?_
        exact ex_ire (dg dc141 29 rfl) rfl hf
  · refine ex_pu (ls' := [vR 0, vI v1, vU]) (st' := [vR 0]) (dg dc141 3 rfl) rfl rfl ?_
    refine ex_getF (dg dc141 4 rfl) rfl (LOC.st (Nat.le_of_ble_eq_true rfl) rfl) rfl ?_
    refine ex_pu (ls' := [vR 0, vI v1, vU]) (st' := [vI v1, vR 3]) (dg dc141 5 rfl) rfl rfl ?_
    refine ex_pu (ls' := [vR 0, vI v1, vU]) (st' := [vR 0, vI v1, vR 3]) (dg dc141 6 rfl) rfl rfl ?_
    refine ex_getF (dg dc141 7 rfl) rfl (LOC.st (Nat.le_of_ble_eq_true rfl) rfl) rfl ?_
    refine ex_getI (dg dc141 8 rfl) rfl (LOC.st (Nat.le_of_ble_eq_true rfl) rfl) rfl ?_
    refine ex_cI (vs := [vR 3, vI v1, vI (M 23 6)]) (st' := []) (F := (land_isHeldBy 3 v1 (M 23 6) M)) (Or.inr (Or.inl ⟨rfl, (dg dc141 9 rfl)⟩)) rfl rfl (rk1 (LOC.st (Nat.le_of_ble_eq_true rfl) rfl) rfl) rfl (fun _ r9 => land_isHeldBy_ok (Z := Z) (d := e9) (by omega) isLand3  r9) hf (fun z_6 M_5 he_4 hf => ?_)
    exact ex_irb (dg dc141 10 rfl) rfl hf
-- GlassHill.far
def il142 : List (Nat × Instr × Nat) := [(0, .aload_n 0, 1), (1, .iload_n 1, 1), (2, .invokevirtual 164, 3), (5, .aload_n 0, 1), (6, .iload_n 2, 1), (7, .invokevirtual 164, 3), (10, .aload_n 0, 1), (11, .getfield 98, 3), (14, .iload_n 1, 1), (15, .iload_n 2, 1), (16, .invokevirtual 421, 3), (19, .ireturn, 1)]
theorem dc142 : dcs (mC 142) il142 := dc_of (by decide +kernel)
def gh_far (v1 : Int) (v2 : Int) (M : MM) : OR :=
  (bV (gh_checkPlace v1 M) fun M_2 => (bV (gh_checkPlace v2 M_2) fun M_5 => (bI (ways_fewestHours v1 v2 M_5) fun z_9 M_8 => some (rI z_9, M_8))))
set_option maxRecDepth 4000 in
theorem gh_far_ok {Z : Nat × (Nat → Int)} {d : Nat} (hd : 3 ≤ d) {M : MM}  {v1 v2 : Int} {res : AR × MM} (hf : gh_far v1 v2 M = some res) : EX Z d 142 0 (ent 142 [vR 0, vI v1, vI v2]) [] M res := by
  obtain ⟨e9, rfl⟩ : ∃ e9, d = e9 + 1 := ⟨d - 1, by omega⟩
  unfold gh_far at hf
  show EX Z _ 142 0 [vR 0, vI v1, vI v2] [] M res
  refine ex_pu (ls' := [vR 0, vI v1, vI v2]) (st' := [vR 0]) (dg dc142 0 rfl) rfl rfl ?_
  refine ex_pu (ls' := [vR 0, vI v1, vI v2]) (st' := [vI v1, vR 0]) (dg dc142 1 rfl) rfl rfl ?_
  refine ex_cV (vs := [vR 0, vI v1]) (st' := []) (F := (gh_checkPlace v1 M)) (Or.inr (Or.inl ⟨rfl, (dg dc142 2 rfl)⟩)) rfl rfl (rk1 (LOC.st (Nat.le_of_ble_eq_true rfl) rfl) rfl) rfl (fun _ r9 => gh_checkPlace_ok (Z := Z) (d := e9) (by omega)  r9) hf (fun M_2 he_1 hf => ?_)
  refine ex_pu (ls' := [vR 0, vI v1, vI v2]) (st' := [vR 0]) (dg dc142 3 rfl) rfl rfl ?_
  refine ex_pu (ls' := [vR 0, vI v1, vI v2]) (st' := [vI v2, vR 0]) (dg dc142 4 rfl) rfl rfl ?_
  refine ex_cV (vs := [vR 0, vI v2]) (st' := []) (F := (gh_checkPlace v2 M_2)) (Or.inr (Or.inl ⟨rfl, (dg dc142 5 rfl)⟩)) rfl rfl (rk1 (LOC.st (Nat.le_of_ble_eq_true rfl) rfl) rfl) rfl (fun _ r9 => gh_checkPlace_ok (Z := Z) (d := e9) (by omega)  r9) hf (fun M_5 he_4 hf => ?_)
  refine ex_pu (ls' := [vR 0, vI v1, vI v2]) (st' := [vR 0]) (dg dc142 6 rfl) rfl rfl ?_
  refine ex_getF (dg dc142 7 rfl) rfl (LOC.st (Nat.le_of_ble_eq_true rfl) rfl) rfl ?_
  refine ex_pu (ls' := [vR 0, vI v1, vI v2]) (st' := [vI v1, vR 158]) (dg dc142 8 rfl) rfl rfl ?_
  refine ex_pu (ls' := [vR 0, vI v1, vI v2]) (st' := [vI v2, vI v1, vR 158]) (dg dc142 9 rfl) rfl rfl ?_
  refine ex_cI (vs := [vR 158, vI v1, vI v2]) (st' := []) (F := (ways_fewestHours v1 v2 M_5)) (Or.inr (Or.inl ⟨rfl, (dg dc142 10 rfl)⟩)) rfl rfl (rk1 (LOC.st (Nat.le_of_ble_eq_true rfl) rfl) rfl) rfl (fun _ r9 => ways_fewestHours_ok (Z := Z) (d := e9) (by omega)  r9) hf (fun z_9 M_8 he_7 hf => ?_)
  exact ex_ire (dg dc142 11 rfl) rfl hf
-- GlassHill.turnBack
def il143 : List (Nat × Instr × Nat) := [(0, .iload_n 1, 1), (1, .ifCond .lt 10, 3), (4, .iload_n 1, 1), (5, .ldc_w 424, 3), (8, .if_icmp .le 14, 3), (11, .new 136, 3), (14, .dup, 1), (15, .ldc_w 425, 3), (18, .invokespecial 140, 3), (21, .athrow, 1), (22, .aload_n 0, 1), (23, .invokevirtual 257, 3), (26, .aload_n 0, 1), (27, .getfield 98, 3), (30, .aload_n 0, 1), (31, .getfield 33, 3), (34, .getfield 260, 3), (37, .iconst 0, 1), (38, .invokevirtual 421, 3), (41, .istore_n 2, 1), (42, .iload_n 2, 1), (43, .iconst (-1), 1), (44, .if_icmp .eq 16, 3), (47, .iload_n 1, 1), (48, .iload_n 2, 1), (49, .isub, 1), (50, .aload_n 0, 1), (51, .getfield 33, 3), (54, .getfield 263, 3), (57, .if_icmp .ge 5, 3), (60, .iconst (-1), 1), (61, .ireturn, 1), (62, .iload_n 1, 1), (63, .iload_n 2, 1), (64, .isub, 1), (65, .ireturn, 1)]
theorem dc143 : dcs (mC 143) il143 := dc_of (by decide +kernel)
def gh_turnBack (v1 : Int) (M : MM) : OR :=
  (bif cmpB .lt v1 0 then thx 13 M else (bif cmpB .le v1 100000 then (bV (gh_checkAnyPlace  M) fun M_2 => (bI (ways_fewestHours (M_2 23 0) 0 M_2) fun z_6 M_5 => (bif cmpB .eq z_6 (-1) then some (rI (-1), M_5) else (bif cmpB .ge (v1 - z_6) (M_5 23 1) then some (rI (v1 - z_6), M_5) else some (rI (-1), M_5))))) else thx 13 M))
set_option maxRecDepth 4000 in
theorem gh_turnBack_ok {Z : Nat × (Nat → Int)} {d : Nat} (hd : 3 ≤ d) {M : MM}  {v1 : Int} {res : AR × MM} (hf : gh_turnBack v1 M = some res) : EX Z d 143 0 (ent 143 [vR 0, vI v1]) [] M res := by
  obtain ⟨e9, rfl⟩ : ∃ e9, d = e9 + 1 := ⟨d - 1, by omega⟩
  unfold gh_turnBack at hf
  show EX Z _ 143 0 [vR 0, vI v1, vU] [] M res
  refine ex_pu (ls' := [vR 0, vI v1, vU]) (st' := [vI v1]) (dg dc143 0 rfl) rfl rfl ?_
  refine ex_if (t := 11) (dg dc143 1 rfl) rfl hf (fun _ hf => ?_) (fun _ hf => ?_)
  · exact ex_thr (ci := 13) (is := 425) (ic := 140) (ln := 10) (dg dc143 5 rfl) rfl (exN_ofW rfl (dg dc143 6 rfl) (dg dc143 7 rfl) (dg dc143 8 rfl) rfl rfl rfl) (dg dc143 9 rfl) rfl ⟨by decide, by decide⟩ hf
  · refine ex_pu (ls' := [vR 0, vI v1, vU]) (st' := [vI v1]) (dg dc143 2 rfl) rfl rfl ?_
    refine ex_ldcW (dg dc143 3 rfl) rfl ?_
    refine ex_icmp (t := 22) (dg dc143 4 rfl) rfl hf (fun _ hf => ?_) (fun _ hf => ?_)
    · refine ex_pu (ls' := [vR 0, vI v1, vU]) (st' := [vR 0]) (dg dc143 10 rfl) rfl rfl ?_
      refine ex_cV (vs := [vR 0]) (st' := []) (F := (gh_checkAnyPlace  M)) (Or.inr (Or.inl ⟨rfl, (dg dc143 11 rfl)⟩)) rfl rfl (rk1 (LOC.st (Nat.le_of_ble_eq_true rfl) rfl) rfl) rfl (fun _ r9 => gh_checkAnyPlace_ok (Z := Z) (d := e9) (by omega)  r9) hf (fun M_2 he_1 hf => ?_)
      refine ex_pu (ls' := [vR 0, vI v1, vU]) (st' := [vR 0]) (dg dc143 12 rfl) rfl rfl ?_
      refine ex_getF (dg dc143 13 rfl) rfl (LOC.st (Nat.le_of_ble_eq_true rfl) rfl) rfl ?_
      refine ex_pu (ls' := [vR 0, vI v1, vU]) (st' := [vR 0, vR 158]) (dg dc143 14 rfl) rfl rfl ?_
      refine ex_getF (dg dc143 15 rfl) rfl (LOC.st (Nat.le_of_ble_eq_true rfl) rfl) rfl ?_
      refine ex_getI (dg dc143 16 rfl) rfl (LOC.st (Nat.le_of_ble_eq_true rfl) rfl) rfl ?_
      refine ex_pu (ls' := [vR 0, vI v1, vU]) (st' := [vI 0, vI (M_2 23 0), vR 158]) (dg dc143 17 rfl) rfl rfl ?_
      refine ex_cI (vs := [vR 158, vI (M_2 23 0), vI 0]) (st' := []) (F := (ways_fewestHours (M_2 23 0) 0 M_2)) (Or.inr (Or.inl ⟨rfl, (dg dc143 18 rfl)⟩)) rfl rfl (rk1 (LOC.st (Nat.le_of_ble_eq_true rfl) rfl) rfl) rfl (fun _ r9 => ways_fewestHours_ok (Z := Z) (d := e9) (by omega)  r9) hf (fun z_6 M_5 he_4 hf => ?_)
      refine ex_pu (ls' := [vR 0, vI v1, vI z_6]) (st' := []) (dg dc143 19 rfl) rfl rfl ?_
      refine ex_pu (ls' := [vR 0, vI v1, vI z_6]) (st' := [vI z_6]) (dg dc143 20 rfl) rfl rfl ?_
      refine ex_pu (ls' := [vR 0, vI v1, vI z_6]) (st' := [vI (-1), vI z_6]) (dg dc143 21 rfl) rfl rfl ?_
      refine ex_icmp (t := 60) (dg dc143 22 rfl) rfl hf (fun _ hf => ?_) (fun _ hf => ?_)
      · refine ex_pu (ls' := [vR 0, vI v1, vI z_6]) (st' := [vI (-1)]) (dg dc143 30 rfl) rfl rfl ?_
        exact ex_ire (dg dc143 31 rfl) rfl hf
      · refine ex_pu (ls' := [vR 0, vI v1, vI z_6]) (st' := [vI v1]) (dg dc143 23 rfl) rfl rfl ?_
        refine ex_pu (ls' := [vR 0, vI v1, vI z_6]) (st' := [vI z_6, vI v1]) (dg dc143 24 rfl) rfl rfl ?_
        refine ex_pu (ls' := [vR 0, vI v1, vI z_6]) (st' := [vI (v1 - z_6)]) (dg dc143 25 rfl) rfl rfl ?_
        refine ex_pu (ls' := [vR 0, vI v1, vI z_6]) (st' := [vR 0, vI (v1 - z_6)]) (dg dc143 26 rfl) rfl rfl ?_
        refine ex_getF (dg dc143 27 rfl) rfl (LOC.st (Nat.le_of_ble_eq_true rfl) rfl) rfl ?_
        refine ex_getI (dg dc143 28 rfl) rfl (LOC.st (Nat.le_of_ble_eq_true rfl) rfl) rfl ?_
        refine ex_icmp (t := 62) (dg dc143 29 rfl) rfl hf (fun _ hf => ?_) (fun _ hf => ?_)
        · refine ex_pu (ls' := [vR 0, vI v1, vI z_6]) (st' := [vI v1]) (dg dc143 32 rfl) rfl rfl ?_
          refine ex_pu (ls' := [vR 0, vI v1, vI z_6]) (st' := [vI z_6, vI v1]) (dg dc143 33 rfl) rfl rfl ?_
          refine ex_pu (ls' := [vR 0, vI v1, vI z_6]) (st' := [vI (v1 - z_6)]) (dg dc143 34 rfl) rfl rfl ?_
          exact ex_ire (dg dc143 35 rfl) rfl hf
        · refine ex_pu (ls' := [vR 0, vI v1, vI z_6]) (st' := [vI (-1)]) (dg dc143 30 rfl) rfl rfl ?_
          exact ex_ire (dg dc143 31 rfl) rfl hf
    · exact ex_thr (ci := 13) (is := 425) (ic := 140) (ln := 10) (dg dc143 5 rfl) rfl (exN_ofW rfl (dg dc143 6 rfl) (dg dc143 7 rfl) (dg dc143 8 rfl) rfl rfl rfl) (dg dc143 9 rfl) rfl ⟨by decide, by decide⟩ hf
-- GlassHill.meet
def il144 : List (Nat × Instr × Nat) := [(0, .aload_n 0, 1), (1, .iload_n 1, 1), (2, .invokevirtual 164, 3), (5, .aload_n 0, 1), (6, .iload_n 2, 1), (7, .invokevirtual 164, 3), (10, .aload_n 0, 1), (11, .getfield 98, 3), (14, .iload_n 1, 1), (15, .iload_n 2, 1), (16, .invokevirtual 427, 3), (19, .istore 4, 2), (21, .iload_n 3, 1), (22, .ifCond .ne 9, 3), (25, .iload 4, 2), (27, .iconst (-1), 1), (28, .if_icmp .ne 8, 3), (31, .iload 4, 2), (33, .goto 12, 3), (36, .aload_n 0, 1), (37, .getfield 98, 3), (40, .iload 4, 2), (42, .invokevirtual 430, 3), (45, .ireturn, 1)]
theorem dc144 : dcs (mC 144) il144 := dc_of (by decide +kernel)
def gh_meet (v1 : Int) (v2 : Int) (v3 : Int) (M : MM) : OR :=
  (bV (gh_checkPlace v1 M) fun M_2 => (bV (gh_checkPlace v2 M_2) fun M_5 => (bI (ways_meetingPlace v1 v2 M_5) fun z_9 M_8 => (bif cmpB .ne v3 0 then some (rI z_9, M_8) else (bif cmpB .ne z_9 (-1) then (bI (ways_hoursToBothEnds z_9 M_8) fun z_12 M_11 => some (rI z_12, M_11)) else some (rI z_9, M_8))))))
set_option maxRecDepth 4000 in
theorem gh_meet_ok {Z : Nat × (Nat → Int)} {d : Nat} (hd : 3 ≤ d) {M : MM}  {v1 v2 v3 : Int} {res : AR × MM} (hf : gh_meet v1 v2 v3 M = some res) : EX Z d 144 0 (ent 144 [vR 0, vI v1, vI v2, vI v3]) [] M res := by
  obtain ⟨e9, rfl⟩ : ∃ e9, d = e9 + 1 := ⟨d - 1, by omega⟩
  unfold gh_meet at hf
  show EX Z _ 144 0 [vR 0, vI v1, vI v2, vI v3, vU] [] M res
  refine ex_pu (ls' := [vR 0, vI v1, vI v2, vI v3, vU]) (st' := [vR 0]) (dg dc144 0 rfl) rfl rfl ?_
  refine ex_pu (ls' := [vR 0, vI v1, vI v2, vI v3, vU]) (st' := [vI v1, vR 0]) (dg dc144 1 rfl) rfl rfl ?_
  refine ex_cV (vs := [vR 0, vI v1]) (st' := []) (F := (gh_checkPlace v1 M)) (Or.inr (Or.inl ⟨rfl, (dg dc144 2 rfl)⟩)) rfl rfl (rk1 (LOC.st (Nat.le_of_ble_eq_true rfl) rfl) rfl) rfl (fun _ r9 => gh_checkPlace_ok (Z := Z) (d := e9) (by omega)  r9) hf (fun M_2 he_1 hf => ?_)
  refine ex_pu (ls' := [vR 0, vI v1, vI v2, vI v3, vU]) (st' := [vR 0]) (dg dc144 3 rfl) rfl rfl ?_
  refine ex_pu (ls' := [vR 0, vI v1, vI v2, vI v3, vU]) (st' := [vI v2, vR 0]) (dg dc144 4 rfl) rfl rfl ?_
  refine ex_cV (vs := [vR 0, vI v2]) (st' := []) (F := (gh_checkPlace v2 M_2)) (Or.inr (Or.inl ⟨rfl, (dg dc144 5 rfl)⟩)) rfl rfl (rk1 (LOC.st (Nat.le_of_ble_eq_true rfl) rfl) rfl) rfl (fun _ r9 => gh_checkPlace_ok (Z := Z) (d := e9) (by omega)  r9) hf (fun M_5 he_4 hf => ?_)
  refine ex_pu (ls' := [vR 0, vI v1, vI v2, vI v3, vU]) (st' := [vR 0]) (dg dc144 6 rfl) rfl rfl ?_
  refine ex_getF (dg dc144 7 rfl) rfl (LOC.st (Nat.le_of_ble_eq_true rfl) rfl) rfl ?_
  refine ex_pu (ls' := [vR 0, vI v1, vI v2, vI v3, vU]) (st' := [vI v1, vR 158]) (dg dc144 8 rfl) rfl rfl ?_
  refine ex_pu (ls' := [vR 0, vI v1, vI v2, vI v3, vU]) (st' := [vI v2, vI v1, vR 158]) (dg dc144 9 rfl) rfl rfl ?_
  refine ex_cI (vs := [vR 158, vI v1, vI v2]) (st' := []) (F := (ways_meetingPlace v1 v2 M_5)) (Or.inr (Or.inl ⟨rfl, (dg dc144 10 rfl)⟩)) rfl rfl (rk1 (LOC.st (Nat.le_of_ble_eq_true rfl) rfl) rfl) rfl (fun _ r9 => ways_meetingPlace_ok (Z := Z) (d := e9) (by omega)  r9) hf (fun z_9 M_8 he_7 hf => ?_)
  refine ex_pu (ls' := [vR 0, vI v1, vI v2, vI v3, vI z_9]) (st' := []) (dg dc144 11 rfl) rfl rfl ?_
  refine ex_pu (ls' := [vR 0, vI v1, vI v2, vI v3, vI z_9]) (st' := [vI v3]) (dg dc144 12 rfl) rfl rfl ?_
  refine ex_if (t := 31) (dg dc144 13 rfl) rfl hf (fun _ hf => ?_) (fun _ hf => ?_)
  · refine ex_pu (ls' := [vR 0, vI v1, vI v2, vI v3, vI z_9]) (st' := [vI z_9]) (dg dc144 17 rfl) rfl rfl ?_
    refine ex_goto (t := 45) (dg dc144 18 rfl) rfl rfl ?_
    exact ex_ire (dg dc144 23 rfl) rfl hf
  · refine ex_pu (ls' := [vR 0, vI v1, vI v2, vI v3, vI z_9]) (st' := [vI z_9]) (dg dc144 14 rfl) rfl rfl ?_
    refine ex_pu (ls' := [vR 0, vI v1, vI v2, vI v3, vI z_9]) (st' := [vI (-1), vI z_9]) (dg dc144 15 rfl) rfl rfl ?_
    refine ex_icmp (t := 36) (dg dc144 16 rfl) rfl hf (fun _ hf => ?_) (fun _ hf => ?_)
    · refine ex_pu (ls' := [vR 0, vI v1, vI v2, vI v3, vI z_9]) (st' := [vR 0]) (dg dc144 19 rfl) rfl rfl ?_
      refine ex_getF (dg dc144 20 rfl) rfl (LOC.st (Nat.le_of_ble_eq_true rfl) rfl) rfl ?_
      refine ex_pu (ls' := [vR 0, vI v1, vI v2, vI v3, vI z_9]) (st' := [vI z_9, vR 158]) (dg dc144 21 rfl) rfl rfl ?_
      refine ex_cI (vs := [vR 158, vI z_9]) (st' := []) (F := (ways_hoursToBothEnds z_9 M_8)) (Or.inr (Or.inl ⟨rfl, (dg dc144 22 rfl)⟩)) rfl rfl (rk1 (LOC.st (Nat.le_of_ble_eq_true rfl) rfl) rfl) rfl (fun _ r9 => ways_hoursToBothEnds_ok (Z := Z) (d := e9) (by omega)  r9) hf (fun z_12 M_11 he_10 hf => ?_)
      exact ex_ire (dg dc144 23 rfl) rfl hf
    · refine ex_pu (ls' := [vR 0, vI v1, vI v2, vI v3, vI z_9]) (st' := [vI z_9]) (dg dc144 17 rfl) rfl rfl ?_
      refine ex_goto (t := 45) (dg dc144 18 rfl) rfl rfl ?_
      exact ex_ire (dg dc144 23 rfl) rfl hf
-- GlassHill.surest
def il145 : List (Nat × Instr × Nat) := [(0, .aload_n 0, 1), (1, .iload_n 1, 1), (2, .invokevirtual 164, 3), (5, .aload_n 0, 1), (6, .iload_n 2, 1), (7, .invokevirtual 164, 3), (10, .aload_n 0, 1), (11, .getfield 98, 3), (14, .iload_n 1, 1), (15, .iload_n 2, 1), (16, .invokevirtual 433, 3), (19, .ireturn, 1)]
theorem dc145 : dcs (mC 145) il145 := dc_of (by decide +kernel)
def gh_surest (v1 : Int) (v2 : Int) (M : MM) : OR :=
  (bV (gh_checkPlace v1 M) fun M_2 => (bV (gh_checkPlace v2 M_2) fun M_5 => (bI (ways_greatestChance v1 v2 M_5) fun z_9 M_8 => some (rI z_9, M_8))))
set_option maxRecDepth 4000 in
theorem gh_surest_ok {Z : Nat × (Nat → Int)} {d : Nat} (hd : 2 ≤ d) {M : MM}  {v1 v2 : Int} {res : AR × MM} (hf : gh_surest v1 v2 M = some res) : EX Z d 145 0 (ent 145 [vR 0, vI v1, vI v2]) [] M res := by
  obtain ⟨e9, rfl⟩ : ∃ e9, d = e9 + 1 := ⟨d - 1, by omega⟩
  unfold gh_surest at hf
  show EX Z _ 145 0 [vR 0, vI v1, vI v2] [] M res
  refine ex_pu (ls' := [vR 0, vI v1, vI v2]) (st' := [vR 0]) (dg dc145 0 rfl) rfl rfl ?_
  refine ex_pu (ls' := [vR 0, vI v1, vI v2]) (st' := [vI v1, vR 0]) (dg dc145 1 rfl) rfl rfl ?_
  refine ex_cV (vs := [vR 0, vI v1]) (st' := []) (F := (gh_checkPlace v1 M)) (Or.inr (Or.inl ⟨rfl, (dg dc145 2 rfl)⟩)) rfl rfl (rk1 (LOC.st (Nat.le_of_ble_eq_true rfl) rfl) rfl) rfl (fun _ r9 => gh_checkPlace_ok (Z := Z) (d := e9) (by omega)  r9) hf (fun M_2 he_1 hf => ?_)
  refine ex_pu (ls' := [vR 0, vI v1, vI v2]) (st' := [vR 0]) (dg dc145 3 rfl) rfl rfl ?_
  refine ex_pu (ls' := [vR 0, vI v1, vI v2]) (st' := [vI v2, vR 0]) (dg dc145 4 rfl) rfl rfl ?_
  refine ex_cV (vs := [vR 0, vI v2]) (st' := []) (F := (gh_checkPlace v2 M_2)) (Or.inr (Or.inl ⟨rfl, (dg dc145 5 rfl)⟩)) rfl rfl (rk1 (LOC.st (Nat.le_of_ble_eq_true rfl) rfl) rfl) rfl (fun _ r9 => gh_checkPlace_ok (Z := Z) (d := e9) (by omega)  r9) hf (fun M_5 he_4 hf => ?_)
  refine ex_pu (ls' := [vR 0, vI v1, vI v2]) (st' := [vR 0]) (dg dc145 6 rfl) rfl rfl ?_
  refine ex_getF (dg dc145 7 rfl) rfl (LOC.st (Nat.le_of_ble_eq_true rfl) rfl) rfl ?_
  refine ex_pu (ls' := [vR 0, vI v1, vI v2]) (st' := [vI v1, vR 158]) (dg dc145 8 rfl) rfl rfl ?_
  refine ex_pu (ls' := [vR 0, vI v1, vI v2]) (st' := [vI v2, vI v1, vR 158]) (dg dc145 9 rfl) rfl rfl ?_
  refine ex_cI (vs := [vR 158, vI v1, vI v2]) (st' := []) (F := (ways_greatestChance v1 v2 M_5)) (Or.inr (Or.inl ⟨rfl, (dg dc145 10 rfl)⟩)) rfl rfl (rk1 (LOC.st (Nat.le_of_ble_eq_true rfl) rfl) rfl) rfl (fun _ r9 => ways_greatestChance_ok (Z := Z) (d := e9) (by omega)  r9) hf (fun z_9 M_8 he_7 hf => ?_)
  exact ex_ire (dg dc145 11 rfl) rfl hf
-- GlassHill.sign
def il146 : List (Nat × Instr × Nat) := [(0, .aload_n 0, 1), (1, .iload_n 1, 1), (2, .invokevirtual 239, 3), (5, .aload_n 0, 1), (6, .getfield 98, 3), (9, .iload_n 1, 1), (10, .invokevirtual 436, 3), (13, .ireturn, 1)]
theorem dc146 : dcs (mC 146) il146 := dc_of (by decide +kernel)
def gh_sign (v1 : Int) (M : MM) : OR :=
  (bV (gh_checkBrother v1 M) fun M_2 => (bI (ways_placeFoundFirst v1 M_2) fun z_6 M_5 => some (rI z_6, M_5)))
set_option maxRecDepth 4000 in
theorem gh_sign_ok {Z : Nat × (Nat → Int)} {d : Nat} (hd : 3 ≤ d) {M : MM}  {v1 : Int} {res : AR × MM} (hf : gh_sign v1 M = some res) : EX Z d 146 0 (ent 146 [vR 0, vI v1]) [] M res := by
  obtain ⟨e9, rfl⟩ : ∃ e9, d = e9 + 1 := ⟨d - 1, by omega⟩
  unfold gh_sign at hf
  show EX Z _ 146 0 [vR 0, vI v1] [] M res
  refine ex_pu (ls' := [vR 0, vI v1]) (st' := [vR 0]) (dg dc146 0 rfl) rfl rfl ?_
  refine ex_pu (ls' := [vR 0, vI v1]) (st' := [vI v1, vR 0]) (dg dc146 1 rfl) rfl rfl ?_
  refine ex_cV (vs := [vR 0, vI v1]) (st' := []) (F := (gh_checkBrother v1 M)) (Or.inr (Or.inl ⟨rfl, (dg dc146 2 rfl)⟩)) rfl rfl (rk1 (LOC.st (Nat.le_of_ble_eq_true rfl) rfl) rfl) rfl (fun _ r9 => gh_checkBrother_ok (Z := Z) (d := e9) (by omega)  r9) hf (fun M_2 he_1 hf => ?_)
  refine ex_pu (ls' := [vR 0, vI v1]) (st' := [vR 0]) (dg dc146 3 rfl) rfl rfl ?_
  refine ex_getF (dg dc146 4 rfl) rfl (LOC.st (Nat.le_of_ble_eq_true rfl) rfl) rfl ?_
  refine ex_pu (ls' := [vR 0, vI v1]) (st' := [vI v1, vR 158]) (dg dc146 5 rfl) rfl rfl ?_
  refine ex_cI (vs := [vR 158, vI v1]) (st' := []) (F := (ways_placeFoundFirst v1 M_2)) (Or.inr (Or.inl ⟨rfl, (dg dc146 6 rfl)⟩)) rfl rfl (rk1 (LOC.st (Nat.le_of_ble_eq_true rfl) rfl) rfl) rfl (fun _ r9 => ways_placeFoundFirst_ok (Z := Z) (d := e9) (by omega)  r9) hf (fun z_6 M_5 he_4 hf => ?_)
  exact ex_ire (dg dc146 7 rfl) rfl hf
-- GlassHill.locks
def il149 : List (Nat × Instr × Nat) := [(0, .aload_n 0, 1), (1, .getfield 10, 3), (4, .bipush 16, 2), (6, .iconst 2, 1), (7, .invokevirtual 442, 3), (10, .istore_n 2, 1), (11, .iload_n 2, 1), (12, .iconst (-1), 1), (13, .if_icmp .ne 14, 3), (16, .new 136, 3), (19, .dup, 1), (20, .ldc_w 452, 3), (23, .invokespecial 140, 3), (26, .athrow, 1), (27, .aload_n 0, 1), (28, .getfield 107, 3), (31, .iload_n 2, 1), (32, .iload_n 1, 1), (33, .invokevirtual 454, 3), (36, .ireturn, 1)]
theorem dc149 : dcs (mC 149) il149 := dc_of (by decide +kernel)
def gh_locks (v1 : Int) (M : MM) : OR :=
  (bI (tape_useUpPairs 16 2 M) fun z_3 M_2 => (bif cmpB .ne z_3 (-1) then (bI (ridd_locksAnswer z_3 v1 M_2) fun z_6 M_5 => some (rI z_6, M_5)) else thx 13 M_2))
set_option maxRecDepth 4000 in
theorem gh_locks_ok {Z : Nat × (Nat → Int)} {d : Nat} (hd : 2 ≤ d) {M : MM}  {v1 : Int} {res : AR × MM} (hf : gh_locks v1 M = some res) : EX Z d 149 0 (ent 149 [vR 0, vI v1]) [] M res := by
  obtain ⟨e9, rfl⟩ : ∃ e9, d = e9 + 1 := ⟨d - 1, by omega⟩
  unfold gh_locks at hf
  show EX Z _ 149 0 [vR 0, vI v1, vU] [] M res
  refine ex_pu (ls' := [vR 0, vI v1, vU]) (st' := [vR 0]) (dg dc149 0 rfl) rfl rfl ?_
  refine ex_getF (dg dc149 1 rfl) rfl (LOC.st (Nat.le_of_ble_eq_true rfl) rfl) rfl ?_
  refine ex_pu (ls' := [vR 0, vI v1, vU]) (st' := [vI 16, vR 1]) (dg dc149 2 rfl) rfl rfl ?_
  refine ex_pu (ls' := [vR 0, vI v1, vU]) (st' := [vI 2, vI 16, vR 1]) (dg dc149 3 rfl) rfl rfl ?_
  refine ex_cI (vs := [vR 1, vI 16, vI 2]) (st' := []) (F := (tape_useUpPairs 16 2 M)) (Or.inr (Or.inl ⟨rfl, (dg dc149 4 rfl)⟩)) rfl rfl (rk1 (LOC.st (Nat.le_of_ble_eq_true rfl) rfl) rfl) rfl (fun _ r9 => tape_useUpPairs_ok (Z := Z) (d := e9) (by omega)  r9) hf (fun z_3 M_2 he_1 hf => ?_)
  refine ex_pu (ls' := [vR 0, vI v1, vI z_3]) (st' := []) (dg dc149 5 rfl) rfl rfl ?_
  refine ex_pu (ls' := [vR 0, vI v1, vI z_3]) (st' := [vI z_3]) (dg dc149 6 rfl) rfl rfl ?_
  refine ex_pu (ls' := [vR 0, vI v1, vI z_3]) (st' := [vI (-1), vI z_3]) (dg dc149 7 rfl) rfl rfl ?_
  refine ex_icmp (t := 27) (dg dc149 8 rfl) rfl hf (fun _ hf => ?_) (fun _ hf => ?_)
  · refine ex_pu (ls' := [vR 0, vI v1, vI z_3]) (st' := [vR 0]) (dg dc149 14 rfl) rfl rfl ?_
    refine ex_getF (dg dc149 15 rfl) rfl (LOC.st (Nat.le_of_ble_eq_true rfl) rfl) rfl ?_
    refine ex_pu (ls' := [vR 0, vI v1, vI z_3]) (st' := [vI z_3, vR 161]) (dg dc149 16 rfl) rfl rfl ?_
    refine ex_pu (ls' := [vR 0, vI v1, vI z_3]) (st' := [vI v1, vI z_3, vR 161]) (dg dc149 17 rfl) rfl rfl ?_
    refine ex_cI (vs := [vR 161, vI z_3, vI v1]) (st' := []) (F := (ridd_locksAnswer z_3 v1 M_2)) (Or.inr (Or.inl ⟨rfl, (dg dc149 18 rfl)⟩)) rfl rfl (rk1 (LOC.st (Nat.le_of_ble_eq_true rfl) rfl) rfl) rfl (fun _ r9 => ridd_locksAnswer_ok (Z := Z) (d := e9) (by omega)  r9) hf (fun z_6 M_5 he_4 hf => ?_)
    exact ex_ire (dg dc149 19 rfl) rfl hf
  · exact ex_thr (ci := 13) (is := 452) (ic := 140) (ln := 10) (dg dc149 9 rfl) rfl (exN_ofW rfl (dg dc149 10 rfl) (dg dc149 11 rfl) (dg dc149 12 rfl) rfl rfl rfl) (dg dc149 13 rfl) rfl ⟨by decide, by decide⟩ hf
-- GlassHill.arrivalNow
def il151 : List (Nat × Instr × Nat) := [(0, .aload_n 0, 1), (1, .getfield 89, 3), (4, .iload_n 1, 1), (5, .aload_n 0, 1), (6, .getfield 33, 3), (9, .getfield 260, 3), (12, .aload_n 0, 1), (13, .getfield 33, 3), (16, .getfield 266, 3), (19, .aload_n 0, 1), (20, .getfield 33, 3), (23, .getfield 195, 3), (26, .aload_n 0, 1), (27, .getfield 33, 3), (30, .getfield 269, 3), (33, .aload_n 0, 1), (34, .getfield 33, 3), (37, .getfield 263, 3), (40, .invokevirtual 467, 3), (43, .ireturn, 1)]
theorem dc151 : dcs (mC 151) il151 := dc_of (by decide +kernel)
def gh_arrivalNow (v1 : Int) (M : MM) : OR :=
  (bI (stps_arrival v1 (M 23 0) (M 23 2) (M 23 6) (M 23 3) (M 23 1) M) fun z_3 M_2 => some (rI z_3, M_2))
set_option maxRecDepth 4000 in
theorem gh_arrivalNow_ok {Z : Nat × (Nat → Int)} {d : Nat} (hd : 4 ≤ d) {M : MM}  {v1 : Int} {res : AR × MM} (hf : gh_arrivalNow v1 M = some res) : EX Z d 151 0 (ent 151 [vR 0, vI v1]) [] M res := by
  obtain ⟨e9, rfl⟩ : ∃ e9, d = e9 + 1 := ⟨d - 1, by omega⟩
  unfold gh_arrivalNow at hf
  show EX Z _ 151 0 [vR 0, vI v1] [] M res
  refine ex_pu (ls' := [vR 0, vI v1]) (st' := [vR 0]) (dg dc151 0 rfl) rfl rfl ?_
  refine ex_getF (dg dc151 1 rfl) rfl (LOC.st (Nat.le_of_ble_eq_true rfl) rfl) rfl ?_
  refine ex_pu (ls' := [vR 0, vI v1]) (st' := [vI v1, vR 157]) (dg dc151 2 rfl) rfl rfl ?_
  refine ex_pu (ls' := [vR 0, vI v1]) (st' := [vR 0, vI v1, vR 157]) (dg dc151 3 rfl) rfl rfl ?_
  refine ex_getF (dg dc151 4 rfl) rfl (LOC.st (Nat.le_of_ble_eq_true rfl) rfl) rfl ?_
  refine ex_getI (dg dc151 5 rfl) rfl (LOC.st (Nat.le_of_ble_eq_true rfl) rfl) rfl ?_
  refine ex_pu (ls' := [vR 0, vI v1]) (st' := [vR 0, vI (M 23 0), vI v1, vR 157]) (dg dc151 6 rfl) rfl rfl ?_
  refine ex_getF (dg dc151 7 rfl) rfl (LOC.st (Nat.le_of_ble_eq_true rfl) rfl) rfl ?_
  refine ex_getI (dg dc151 8 rfl) rfl (LOC.st (Nat.le_of_ble_eq_true rfl) rfl) rfl ?_
  refine ex_pu (ls' := [vR 0, vI v1]) (st' := [vR 0, vI (M 23 2), vI (M 23 0), vI v1, vR 157]) (dg dc151 9 rfl) rfl rfl ?_
  refine ex_getF (dg dc151 10 rfl) rfl (LOC.st (Nat.le_of_ble_eq_true rfl) rfl) rfl ?_
  refine ex_getI (dg dc151 11 rfl) rfl (LOC.st (Nat.le_of_ble_eq_true rfl) rfl) rfl ?_
  refine ex_pu (ls' := [vR 0, vI v1]) (st' := [vR 0, vI (M 23 6), vI (M 23 2), vI (M 23 0), vI v1, vR 157]) (dg dc151 12 rfl) rfl rfl ?_
  refine ex_getF (dg dc151 13 rfl) rfl (LOC.st (Nat.le_of_ble_eq_true rfl) rfl) rfl ?_
  refine ex_getI (dg dc151 14 rfl) rfl (LOC.st (Nat.le_of_ble_eq_true rfl) rfl) rfl ?_
  refine ex_pu (ls' := [vR 0, vI v1]) (st' := [vR 0, vI (M 23 3), vI (M 23 6), vI (M 23 2), vI (M 23 0), vI v1, vR 157]) (dg dc151 15 rfl) rfl rfl ?_
  refine ex_getF (dg dc151 16 rfl) rfl (LOC.st (Nat.le_of_ble_eq_true rfl) rfl) rfl ?_
  refine ex_getI (dg dc151 17 rfl) rfl (LOC.st (Nat.le_of_ble_eq_true rfl) rfl) rfl ?_
  refine ex_cI (vs := [vR 157, vI v1, vI (M 23 0), vI (M 23 2), vI (M 23 6), vI (M 23 3), vI (M 23 1)]) (st' := []) (F := (stps_arrival v1 (M 23 0) (M 23 2) (M 23 6) (M 23 3) (M 23 1) M)) (Or.inr (Or.inl ⟨rfl, (dg dc151 18 rfl)⟩)) rfl rfl (rk1 (LOC.st (Nat.le_of_ble_eq_true rfl) rfl) rfl) rfl (fun _ r9 => stps_arrival_ok (Z := Z) (d := e9) (by omega)  r9) hf (fun z_3 M_2 he_1 hf => ?_)
  exact ex_ire (dg dc151 19 rfl) rfl hf
-- GlassHill.hasRoom
def il160 : List (Nat × Instr × Nat) := [(0, .iload_n 0, 1), (1, .invokestatic 328, 3), (4, .iconst 4, 1), (5, .if_icmp .ge 7, 3), (8, .iconst 1, 1), (9, .goto 4, 3), (12, .iconst 0, 1), (13, .ireturn, 1)]
theorem dc160 : dcs (mC 160) il160 := dc_of (by decide +kernel)
def gh_hasRoom (v0 : Int) (M : MM) : OR :=
  (bI (jdk_bitCount v0 M) fun z_3 M_2 => (bif cmpB .ge z_3 4 then some (rI 0, M_2) else some (rI 1, M_2)))
set_option maxRecDepth 4000 in
theorem gh_hasRoom_ok {Z : Nat × (Nat → Int)} {d : Nat} (hd : 1 ≤ d) {M : MM}  {v0 : Int} {res : AR × MM} (hf : gh_hasRoom v0 M = some res) : EX Z d 160 0 (ent 160 [vI v0]) [] M res := by
  obtain ⟨e9, rfl⟩ : ∃ e9, d = e9 + 1 := ⟨d - 1, by omega⟩
  unfold gh_hasRoom at hf
  show EX Z _ 160 0 [vI v0] [] M res
  refine ex_pu (ls' := [vI v0]) (st' := [vI v0]) (dg dc160 0 rfl) rfl rfl ?_
  refine ex_cI (vs := [vI v0]) (st' := []) (F := (jdk_bitCount v0 M)) (Or.inl ⟨rfl, (dg dc160 1 rfl)⟩) rfl rfl (Or.inl rfl) rfl (fun _ r9 => jdk_bitCount_ok (Z := Z) (d := e9) (by omega)  r9) hf (fun z_3 M_2 he_1 hf => ?_)
  refine ex_pu (ls' := [vI v0]) (st' := [vI 4, vI z_3]) (dg dc160 2 rfl) rfl rfl ?_
  refine ex_icmp (t := 12) (dg dc160 3 rfl) rfl hf (fun _ hf => ?_) (fun _ hf => ?_)
  · refine ex_pu (ls' := [vI v0]) (st' := [vI 0]) (dg dc160 6 rfl) rfl rfl ?_
    exact ex_ire (dg dc160 7 rfl) rfl hf
  · refine ex_pu (ls' := [vI v0]) (st' := [vI 1]) (dg dc160 4 rfl) rfl rfl ?_
    refine ex_goto (t := 13) (dg dc160 5 rfl) rfl rfl ?_
    exact ex_ire (dg dc160 7 rfl) rfl hf
-- GlassHillModel.readAtom
def il209 : List (Nat × Instr × Nat) := [(0, .aload_n 0, 1), (1, .bipush 40, 2), (3, .invokevirtual 225, 3), (6, .ifCond .eq 50, 3), (9, .aload_n 0, 1), (10, .getfield 228, 3), (13, .bipush 6, 2), (15, .if_icmp .ne 5, 3), (18, .iconst 0, 1), (19, .ireturn, 1), (20, .aload_n 0, 1), (21, .dup, 1), (22, .getfield 228, 3), (25, .iconst 1, 1), (26, .iadd, 1), (27, .putfield 228, 3), (30, .aload_n 0, 1), (31, .invokevirtual 231, 3), (34, .ifCond .ne 5, 3), (37, .iconst 0, 1), (38, .ireturn, 1), (39, .aload_n 0, 1), (40, .dup, 1), (41, .getfield 228, 3), (44, .iconst 1, 1), (45, .isub, 1), (46, .putfield 228, 3), (49, .aload_n 0, 1), (50, .bipush 41, 2), (52, .invokevirtual 225, 3), (55, .ireturn, 1), (56, .aload_n 0, 1), (57, .ldc 234, 2), (59, .invokevirtual 154, 3), (62, .ifCond .eq 52, 3), (65, .aload_n 0, 1), (66, .getfield 228, 3), (69, .bipush 6, 2), (71, .if_icmp .ne 5, 3), (74, .iconst 0, 1), (75, .ireturn, 1), (76, .aload_n 0, 1), (77, .dup, 1), (78, .getfield 228, 3), (81, .iconst 1, 1), (82, .iadd, 1), (83, .putfield 228, 3), (86, .aload_n 0, 1), (87, .invokevirtual 236, 3), (90, .ifCond .ne 5, 3), (93, .iconst 0, 1), (94, .ireturn, 1), (95, .aload_n 0, 1), (96, .dup, 1), (97, .getfield 228, 3), (100, .iconst 1, 1), (101, .isub, 1), (102, .putfield 228, 3), (105, .aload_n 0, 1), (106, .bipush 12, 2), (108, .iconst 0, 1), (109, .invokevirtual 210, 3), (112, .iconst 1, 1), (113, .ireturn, 1), (114, .aload_n 0, 1), (115, .ldc 239, 2), (117, .invokevirtual 154, 3), (120, .ifCond .eq 12, 3), (123, .aload_n 0, 1), (124, .bipush 7, 2), (126, .iconst 0, 1), (127, .invokevirtual 210, 3), (130, .iconst 1, 1), (131, .ireturn, 1), (132, .aload_n 0, 1), (133, .invokevirtual 241, 3), (136, .ifCond .ne 5, 3), (139, .iconst 0, 1), (140, .ireturn, 1), (141, .aload_n 0, 1), (142, .bipush 60, 2), (144, .invokevirtual 225, 3), (147, .istore_n 1, 1), (148, .iload_n 1, 1), (149, .ifCond .ne 12, 3), (152, .aload_n 0, 1), (153, .bipush 62, 2), (155, .invokevirtual 225, 3), (158, .ifCond .eq 10, 3), (161, .aload_n 0, 1), (162, .invokevirtual 241, 3), (165, .ifCond .ne 5, 3), (168, .iconst 0, 1), (169, .ireturn, 1), (170, .aload_n 0, 1), (171, .iload_n 1, 1), (172, .ifCond .eq 8, 3), (175, .bipush 10, 2), (177, .goto 5, 3), (180, .bipush 11, 2), (182, .iconst 0, 1), (183, .invokevirtual 210, 3), (186, .iconst 1, 1), (187, .ireturn, 1)]
theorem dc209 : dcs (mC 209) il209 := dc_of (by decide +kernel)
def mo_readAtom (R : MM → OR)  (M : MM) : OR :=
  (bI (mo_isSign 40 M) fun z_3 M_2 => (bif cmpB .eq z_3 0 then (bI (mo_passes 71 M_2) fun z_6 M_5 => (bif cmpB .eq z_6 0 then (bI (mo_passes 72 M_5) fun z_9 M_8 => (bif cmpB .eq z_9 0 then (bI (mo_readSum  M_8) fun z_12 M_11 => (bif cmpB .ne z_12 0 then (bI (mo_isSign 60 M_11) fun z_15 M_14 => (bif cmpB .ne z_15 0 then (bI (mo_readSum  M_14) fun z_18 M_17 => (bif cmpB .ne z_18 0 then (bif cmpB .eq z_15 0 then (bV (mo_emits 11 0 M_17) fun M_20 => some (rI 1, M_20)) else (bV (mo_emits 10 0 M_17) fun M_23 => some (rI 1, M_23))) else some (rI 0, M_17))) else (bI (mo_isSign 62 M_14) fun z_27 M_26 => (bif cmpB .eq z_27 0 then some (rI 0, M_26) else (bI (mo_readSum  M_26) fun z_30 M_29 => (bif cmpB .ne z_30 0 then (bif cmpB .eq z_15 0 then (bV (mo_emits 11 0 M_29) fun M_32 => some (rI 1, M_32)) else (bV (mo_emits 10 0 M_29) fun M_35 => some (rI 1, M_35))) else some (rI 0, M_29))))))) else some (rI 0, M_11))) else (bV (mo_emits 7 0 M_8) fun M_38 => some (rI 1, M_38)))) else (bif cmpB .ne (M_5 165 12) 6 then (sM (mU M_5 165 12 ((M_5 165 12) + 1)) fun M_40 => (bI (R  M_40) fun z_44 M_43 => (bif cmpB .ne z_44 0 then (sM (mU M_43 165 12 ((M_43 165 12) - 1)) fun M_45 => (bV (mo_emits 12 0 M_45) fun M_48 => some (rI 1, M_48))) else some (rI 0, M_43)))) else some (rI 0, M_5)))) else (bif cmpB .ne (M_2 165 12) 6 then (sM (mU M_2 165 12 ((M_2 165 12) + 1)) fun M_50 => (bI (mo_readCond R M_50) fun z_54 M_53 => (bif cmpB .ne z_54 0 then (sM (mU M_53 165 12 ((M_53 165 12) - 1)) fun M_55 => (bI (mo_isSign 41 M_55) fun z_59 M_58 => (bif zo z_59 then some (rI z_59, M_58) else none))) else some (rI 0, M_53)))) else some (rI 0, M_2))))
set_option maxRecDepth 4000 in
theorem mo_readAtom_ok {Z : Nat × (Nat → Int)} {d : Nat} (hd : 8 ≤ d) {E9 : Nat} (hE : E9 + 3 ≤ d) {R : MM → OR} (hR : ∀ {e : Nat}, E9 ≤ e → ∀ {M : MM} {r : AR × MM}, R  M = some r → EX Z e 209 0 (ent 209 [vR 165]) [] M r) {M : MM}  {res : AR × MM} (hf : mo_readAtom R M = some res) : EX Z d 209 0 (ent 209 [vR 165]) [] M res := by
  obtain ⟨e9, rfl⟩ : ∃ e9, d = e9 + 1 := ⟨d - 1, by omega⟩
  unfold mo_readAtom at hf
  show EX Z _ 209 0 [vR 165, vU] [] M res
  refine ex_pu (ls' := [vR 165, vU]) (st' := [vR 165]) (dg dc209 0 rfl) rfl rfl ?_
  refine ex_pu (ls' := [vR 165, vU]) (st' := [vI 40, vR 165]) (dg dc209 1 rfl) rfl rfl ?_
  refine ex_cI (vs := [vR 165, vI 40]) (st' := []) (F := (mo_isSign 40 M)) (Or.inr (Or.inl ⟨rfl, (dg dc209 2 rfl)⟩)) rfl rfl (rk1 (LOC.st (Nat.le_of_ble_eq_true rfl) rfl) rfl) rfl (fun _ r9 => mo_isSign_ok (Z := Z) (d := e9) (by omega)  r9) hf (fun z_3 M_2 he_1 hf => ?_)
  refine ex_if (t := 56) (dg dc209 3 rfl) rfl hf (fun _ hf => ?_) (fun _ hf => ?_)
  · refine ex_pu (ls' := [vR 165, vU]) (st' := [vR 165]) (dg dc209 31 rfl) rfl rfl ?_
    refine ex_ldcT (dg dc209 32 rfl) rfl ?_
    refine ex_cI (vs := [vR 165, vR (E0 + 2 + 2 * 71)]) (st' := []) (F := (mo_passes 71 M_2)) (Or.inr (Or.inl ⟨rfl, (dg dc209 33 rfl)⟩)) rfl rfl (rk1 (LOC.st (Nat.le_of_ble_eq_true rfl) rfl) rfl) rfl (fun _ r9 => mo_passes_ok (Z := Z) (d := e9) (by omega) (by decide)  r9) hf (fun z_6 M_5 he_4 hf => ?_)
    refine ex_if (t := 114) (dg dc209 34 rfl) rfl hf (fun _ hf => ?_) (fun _ hf => ?_)
    · refine ex_pu (ls' := [vR 165, vU]) (st' := [vR 165]) (dg dc209 64 rfl) rfl rfl ?_
      refine ex_ldcT (dg dc209 65 rfl) rfl ?_
      refine ex_cI (vs := [vR 165, vR (E0 + 2 + 2 * 72)]) (st' := []) (F := (mo_passes 72 M_5)) (Or.inr (Or.inl ⟨rfl, (dg dc209 66 rfl)⟩)) rfl rfl (rk1 (LOC.st (Nat.le_of_ble_eq_true rfl) rfl) rfl) rfl (fun _ r9 => mo_passes_ok (Z := Z) (d := e9) (by omega) (by decide)  r9) hf (fun z_9 M_8 he_7 hf => ?_)
      refine ex_if (t := 132) (dg dc209 67 rfl) rfl hf (fun _ hf => ?_) (fun _ hf => ?_)
      · refine ex_pu (ls' := [vR 165, vU]) (st' := [vR 165]) (dg dc209 74 rfl) rfl rfl ?_
        refine ex_cI (vs := [vR 165]) (st' := []) (F := (mo_readSum  M_8)) (Or.inr (Or.inl ⟨rfl, (dg dc209 75 rfl)⟩)) rfl rfl (rk1 (LOC.st (Nat.le_of_ble_eq_true rfl) rfl) rfl) rfl (fun _ r9 => mo_readSum_ok (Z := Z) (d := e9) (by omega)  r9) hf (fun z_12 M_11 he_10 hf => ?_)
        refine ex_if (t := 141) (dg dc209 76 rfl) rfl hf (fun _ hf => ?_) (fun _ hf => ?_)
        · refine ex_pu (ls' := [vR 165, vU]) (st' := [vR 165]) (dg dc209 79 rfl) rfl rfl ?_
          refine ex_pu (ls' := [vR 165, vU]) (st' := [vI 60, vR 165]) (dg dc209 80 rfl) rfl rfl ?_
          refine ex_cI (vs := [vR 165, vI 60]) (st' := []) (F := (mo_isSign 60 M_11)) (Or.inr (Or.inl ⟨rfl, (dg dc209 81 rfl)⟩)) rfl rfl (rk1 (LOC.st (Nat.le_of_ble_eq_true rfl) rfl) rfl) rfl (fun _ r9 => mo_isSign_ok (Z := Z) (d := e9) (by omega)  r9) hf (fun z_15 M_14 he_13 hf => ?_)
          refine ex_pu (ls' := [vR 165, vI z_15]) (st' := []) (dg dc209 82 rfl) rfl rfl ?_
          refine ex_pu (ls' := [vR 165, vI z_15]) (st' := [vI z_15]) (dg dc209 83 rfl) rfl rfl ?_
          refine ex_if (t := 161) (dg dc209 84 rfl) rfl hf (fun _ hf => ?_) (fun _ hf => ?_)
          · refine ex_pu (ls' := [vR 165, vI z_15]) (st' := [vR 165]) (dg dc209 89 rfl) rfl rfl ?_
            refine ex_cI (vs := [vR 165]) (st' := []) (F := (mo_readSum  M_14)) (Or.inr (Or.inl ⟨rfl, (dg dc209 90 rfl)⟩)) rfl rfl (rk1 (LOC.st (Nat.le_of_ble_eq_true rfl) rfl) rfl) rfl (fun _ r9 => mo_readSum_ok (Z := Z) (d := e9) (by omega)  r9) hf (fun z_18 M_17 he_16 hf => ?_)
            refine ex_if (t := 170) (dg dc209 91 rfl) rfl hf (fun _ hf => ?_) (fun _ hf => ?_)
            · refine ex_pu (ls' := [vR 165, vI z_15]) (st' := [vR 165]) (dg dc209 94 rfl) rfl rfl ?_
              refine ex_pu (ls' := [vR 165, vI z_15]) (st' := [vI z_15, vR 165]) (dg dc209 95 rfl) rfl rfl ?_
              refine ex_if (t := 180) (dg dc209 96 rfl) rfl hf (fun _ hf => ?_) (fun _ hf => ?_)
              · refine ex_pu (ls' := [vR 165, vI z_15]) (st' := [vI 11, vR 165]) (dg dc209 99 rfl) rfl rfl ?_
                refine ex_pu (ls' := [vR 165, vI z_15]) (st' := [vI 0, vI 11, vR 165]) (dg dc209 100 rfl) rfl rfl ?_
                refine ex_cV (vs := [vR 165, vI 11, vI 0]) (st' := []) (F := (mo_emits 11 0 M_17)) (Or.inr (Or.inl ⟨rfl, (dg dc209 101 rfl)⟩)) rfl rfl (rk1 (LOC.st (Nat.le_of_ble_eq_true rfl) rfl) rfl) rfl (fun _ r9 => mo_emits_ok (Z := Z) (d := e9) (by omega)  r9) hf (fun M_20 he_19 hf => ?_)
                refine ex_pu (ls' := [vR 165, vI z_15]) (st' := [vI 1]) (dg dc209 102 rfl) rfl rfl ?_
                exact ex_ire (dg dc209 103 rfl) rfl hf
              · refine ex_pu (ls' := [vR 165, vI z_15]) (st' := [vI 10, vR 165]) (dg dc209 97 rfl) rfl rfl ?_
                refine ex_goto (t := 182) (dg dc209 98 rfl) rfl rfl ?_
                refine ex_pu (ls' := [vR 165, vI z_15]) (st' := [vI 0, vI 10, vR 165]) (dg dc209 100 rfl) rfl rfl ?_
                refine ex_cV (vs := [vR 165, vI 10, vI 0]) (st' := []) (F := (mo_emits 10 0 M_17)) (Or.inr (Or.inl ⟨rfl, (dg dc209 101 rfl)⟩)) rfl rfl (rk1 (LOC.st (Nat.le_of_ble_eq_true rfl) rfl) rfl) rfl (fun _ r9 => mo_emits_ok (Z := Z) (d := e9) (by omega)  r9) hf (fun M_23 he_22 hf => ?_)
                refine ex_pu (ls' := [vR 165, vI z_15]) (st' := [vI 1]) (dg dc209 102 rfl) rfl rfl ?_
                exact ex_ire (dg dc209 103 rfl) rfl hf
            · refine ex_pu (ls' := [vR 165, vI z_15]) (st' := [vI 0]) (dg dc209 92 rfl) rfl rfl ?_
              exact ex_ire (dg dc209 93 rfl) rfl hf
          · refine ex_pu (ls' := [vR 165, vI z_15]) (st' := [vR 165]) (dg dc209 85 rfl) rfl rfl ?_
            refine ex_pu (ls' := [vR 165, vI z_15]) (st' := [vI 62, vR 165]) (dg dc209 86 rfl) rfl rfl ?_
            refine ex_cI (vs := [vR 165, vI 62]) (st' := []) (F := (mo_isSign 62 M_14)) (Or.inr (Or.inl ⟨rfl, (dg dc209 87 rfl)⟩)) rfl rfl (rk1 (LOC.st (Nat.le_of_ble_eq_true rfl) rfl) rfl) rfl (fun _ r9 => mo_isSign_ok (Z := Z) (d := e9) (by omega)  r9) hf (fun z_27 M_26 he_25 hf => ?_)
            refine ex_if (t := 168) (dg dc209 88 rfl) rfl hf (fun _ hf => ?_) (fun _ hf => ?_)
            · refine ex_pu (ls' := [vR 165, vI z_15]) (st' := [vI 0]) (dg dc209 92 rfl) rfl rfl ?_
              exact ex_ire (dg dc209 93 rfl) rfl hf
            · refine ex_pu (ls' := [vR 165, vI z_15]) (st' := [vR 165]) (dg dc209 89 rfl) rfl rfl ?_
              refine ex_cI (vs := [vR 165]) (st' := []) (F := (mo_readSum  M_26)) (Or.inr (Or.inl ⟨rfl, (dg dc209 90 rfl)⟩)) rfl rfl (rk1 (LOC.st (Nat.le_of_ble_eq_true rfl) rfl) rfl) rfl (fun _ r9 => mo_readSum_ok (Z := Z) (d := e9) (by omega)  r9) hf (fun z_30 M_29 he_28 hf => ?_)
              refine ex_if (t := 170) (dg dc209 91 rfl) rfl hf (fun _ hf => ?_) (fun _ hf => ?_)
              · refine ex_pu (ls' := [vR 165, vI z_15]) (st' := [vR 165]) (dg dc209 94 rfl) rfl rfl ?_
                refine ex_pu (ls' := [vR 165, vI z_15]) (st' := [vI z_15, vR 165]) (dg dc209 95 rfl) rfl rfl ?_
                refine ex_if (t := 180) (dg dc209 96 rfl) rfl hf (fun _ hf => ?_) (fun _ hf => ?_)
                · refine ex_pu (ls' := [vR 165, vI z_15]) (st' := [vI 11, vR 165]) (dg dc209 99 rfl) rfl rfl ?_
                  refine ex_pu (ls' := [vR 165, vI z_15]) (st' := [vI 0, vI 11, vR 165]) (dg dc209 100 rfl) rfl rfl ?_
                  refine ex_cV (vs := [vR 165, vI 11, vI 0]) (st' := []) (F := (mo_emits 11 0 M_29)) (Or.inr (Or.inl ⟨rfl, (dg dc209 101 rfl)⟩)) rfl rfl (rk1 (LOC.st (Nat.le_of_ble_eq_true rfl) rfl) rfl) rfl (fun _ r9 => mo_emits_ok (Z := Z) (d := e9) (by omega)  r9) hf (fun M_32 he_31 hf => ?_)
                  refine ex_pu (ls' := [vR 165, vI z_15]) (st' := [vI 1]) (dg dc209 102 rfl) rfl rfl ?_
                  exact ex_ire (dg dc209 103 rfl) rfl hf
                · refine ex_pu (ls' := [vR 165, vI z_15]) (st' := [vI 10, vR 165]) (dg dc209 97 rfl) rfl rfl ?_
                  refine ex_goto (t := 182) (dg dc209 98 rfl) rfl rfl ?_
                  refine ex_pu (ls' := [vR 165, vI z_15]) (st' := [vI 0, vI 10, vR 165]) (dg dc209 100 rfl) rfl rfl ?_
                  refine ex_cV (vs := [vR 165, vI 10, vI 0]) (st' := []) (F := (mo_emits 10 0 M_29)) (Or.inr (Or.inl ⟨rfl, (dg dc209 101 rfl)⟩)) rfl rfl (rk1 (LOC.st (Nat.le_of_ble_eq_true rfl) rfl) rfl) rfl (fun _ r9 => mo_emits_ok (Z := Z) (d := e9) (by omega)  r9) hf (fun M_35 he_34 hf => ?_)
                  refine ex_pu (ls' := [vR 165, vI z_15]) (st' := [vI 1]) (dg dc209 102 rfl) rfl rfl ?_
                  exact ex_ire (dg dc209 103 rfl) rfl hf
              · refine ex_pu (ls' := [vR 165, vI z_15]) (st' := [vI 0]) (dg dc209 92 rfl) rfl rfl ?_
                exact ex_ire (dg dc209 93 rfl) rfl hf
        · refine ex_pu (ls' := [vR 165, vU]) (st' := [vI 0]) (dg dc209 77 rfl) rfl rfl ?_
          exact ex_ire (dg dc209 78 rfl) rfl hf
      · refine ex_pu (ls' := [vR 165, vU]) (st' := [vR 165]) (dg dc209 68 rfl) rfl rfl ?_
        refine ex_pu (ls' := [vR 165, vU]) (st' := [vI 7, vR 165]) (dg dc209 69 rfl) rfl rfl ?_
        refine ex_pu (ls' := [vR 165, vU]) (st' := [vI 0, vI 7, vR 165]) (dg dc209 70 rfl) rfl rfl ?_
        refine ex_cV (vs := [vR 165, vI 7, vI 0]) (st' := []) (F := (mo_emits 7 0 M_8)) (Or.inr (Or.inl ⟨rfl, (dg dc209 71 rfl)⟩)) rfl rfl (rk1 (LOC.st (Nat.le_of_ble_eq_true rfl) rfl) rfl) rfl (fun _ r9 => mo_emits_ok (Z := Z) (d := e9) (by omega)  r9) hf (fun M_38 he_37 hf => ?_)
        refine ex_pu (ls' := [vR 165, vU]) (st' := [vI 1]) (dg dc209 72 rfl) rfl rfl ?_
        exact ex_ire (dg dc209 73 rfl) rfl hf
    · refine ex_pu (ls' := [vR 165, vU]) (st' := [vR 165]) (dg dc209 35 rfl) rfl rfl ?_
      refine ex_getI (dg dc209 36 rfl) rfl (LOC.st (Nat.le_of_ble_eq_true rfl) rfl) rfl ?_
      refine ex_pu (ls' := [vR 165, vU]) (st' := [vI 6, vI (M_5 165 12)]) (dg dc209 37 rfl) rfl rfl ?_
      refine ex_icmp (t := 76) (dg dc209 38 rfl) rfl hf (fun _ hf => ?_) (fun _ hf => ?_)
      · refine ex_pu (ls' := [vR 165, vU]) (st' := [vR 165]) (dg dc209 41 rfl) rfl rfl ?_
        refine ex_pu (ls' := [vR 165, vU]) (st' := [vR 165, vR 165]) (dg dc209 42 rfl) rfl rfl ?_
        refine ex_getI (dg dc209 43 rfl) rfl (LOC.st (Nat.le_of_ble_eq_true rfl) rfl) rfl ?_
        refine ex_pu (ls' := [vR 165, vU]) (st' := [vI 1, vI (M_5 165 12), vR 165]) (dg dc209 44 rfl) rfl rfl ?_
        refine ex_pu (ls' := [vR 165, vU]) (st' := [vI ((M_5 165 12) + 1), vR 165]) (dg dc209 45 rfl) rfl rfl ?_
        refine ex_putI (dg dc209 46 rfl) rfl (LOC.st (Nat.le_of_ble_eq_true rfl) rfl) rfl rfl rfl ?_
        refine ex_gen hf (fun M_40 hM_41 hf => ?_)
        refine ex_pu (ls' := [vR 165, vU]) (st' := [vR 165]) (dg dc209 47 rfl) rfl rfl ?_
        refine ex_cI (vs := [vR 165]) (st' := []) (F := (R  M_40)) (Or.inr (Or.inl ⟨rfl, (dg dc209 48 rfl)⟩)) rfl rfl (rk1 (LOC.st (Nat.le_of_ble_eq_true rfl) rfl) rfl) rfl (fun _ r9 => hR (by omega) r9) hf (fun z_44 M_43 he_42 hf => ?_)
        refine ex_if (t := 95) (dg dc209 49 rfl) rfl hf (fun _ hf => ?_) (fun _ hf => ?_)
        · refine ex_pu (ls' := [vR 165, vU]) (st' := [vR 165]) (dg dc209 52 rfl) rfl rfl ?_
          refine ex_pu (ls' := [vR 165, vU]) (st' := [vR 165, vR 165]) (dg dc209 53 rfl) rfl rfl ?_
          refine ex_getI (dg dc209 54 rfl) rfl (LOC.st (Nat.le_of_ble_eq_true rfl) rfl) rfl ?_
          refine ex_pu (ls' := [vR 165, vU]) (st' := [vI 1, vI (M_43 165 12), vR 165]) (dg dc209 55 rfl) rfl rfl ?_
          refine ex_pu (ls' := [vR 165, vU]) (st' := [vI ((M_43 165 12) - 1), vR 165]) (dg dc209 56 rfl) rfl rfl ?_
          refine ex_putI (dg dc209 57 rfl) rfl (LOC.st (Nat.le_of_ble_eq_true rfl) rfl) rfl rfl rfl ?_
          refine ex_gen hf (fun M_45 hM_46 hf => ?_)
          refine ex_pu (ls' := [vR 165, vU]) (st' := [vR 165]) (dg dc209 58 rfl) rfl rfl ?_
          refine ex_pu (ls' := [vR 165, vU]) (st' := [vI 12, vR 165]) (dg dc209 59 rfl) rfl rfl ?_
          refine ex_pu (ls' := [vR 165, vU]) (st' := [vI 0, vI 12, vR 165]) (dg dc209 60 rfl) rfl rfl ?_
          refine ex_cV (vs := [vR 165, vI 12, vI 0]) (st' := []) (F := (mo_emits 12 0 M_45)) (Or.inr (Or.inl ⟨rfl, (dg dc209 61 rfl)⟩)) rfl rfl (rk1 (LOC.st (Nat.le_of_ble_eq_true rfl) rfl) rfl) rfl (fun _ r9 => mo_emits_ok (Z := Z) (d := e9) (by omega)  r9) hf (fun M_48 he_47 hf => ?_)
          refine ex_pu (ls' := [vR 165, vU]) (st' := [vI 1]) (dg dc209 62 rfl) rfl rfl ?_
          exact ex_ire (dg dc209 63 rfl) rfl hf
        · refine ex_pu (ls' := [vR 165, vU]) (st' := [vI 0]) (dg dc209 50 rfl) rfl rfl ?_
          exact ex_ire (dg dc209 51 rfl) rfl hf
      · refine ex_pu (ls' := [vR 165, vU]) (st' := [vI 0]) (dg dc209 39 rfl) rfl rfl ?_
        exact ex_ire (dg dc209 40 rfl) rfl hf
  · refine ex_pu (ls' := [vR 165, vU]) (st' := [vR 165]) (dg dc209 4 rfl) rfl rfl ?_
    refine ex_getI (dg dc209 5 rfl) rfl (LOC.st (Nat.le_of_ble_eq_true rfl) rfl) rfl ?_
    refine ex_pu (ls' := [vR 165, vU]) (st' := [vI 6, vI (M_2 165 12)]) (dg dc209 6 rfl) rfl rfl ?_
    refine ex_icmp (t := 20) (dg dc209 7 rfl) rfl hf (fun _ hf => ?_) (fun _ hf => ?_)
    · refine ex_pu (ls' := [vR 165, vU]) (st' := [vR 165]) (dg dc209 10 rfl) rfl rfl ?_
      refine ex_pu (ls' := [vR 165, vU]) (st' := [vR 165, vR 165]) (dg dc209 11 rfl) rfl rfl ?_
      refine ex_getI (dg dc209 12 rfl) rfl (LOC.st (Nat.le_of_ble_eq_true rfl) rfl) rfl ?_
      refine ex_pu (ls' := [vR 165, vU]) (st' := [vI 1, vI (M_2 165 12), vR 165]) (dg dc209 13 rfl) rfl rfl ?_
      refine ex_pu (ls' := [vR 165, vU]) (st' := [vI ((M_2 165 12) + 1), vR 165]) (dg dc209 14 rfl) rfl rfl ?_
      refine ex_putI (dg dc209 15 rfl) rfl (LOC.st (Nat.le_of_ble_eq_true rfl) rfl) rfl rfl rfl ?_
      refine ex_gen hf (fun M_50 hM_51 hf => ?_)
      refine ex_pu (ls' := [vR 165, vU]) (st' := [vR 165]) (dg dc209 16 rfl) rfl rfl ?_
      refine ex_cI (vs := [vR 165]) (st' := []) (F := (mo_readCond R M_50)) (Or.inr (Or.inl ⟨rfl, (dg dc209 17 rfl)⟩)) rfl rfl (rk1 (LOC.st (Nat.le_of_ble_eq_true rfl) rfl) rfl) rfl (fun _ r9 => mo_readCond_ok (Z := Z) (d := e9) (by omega) (by omega) hR  r9) hf (fun z_54 M_53 he_52 hf => ?_)
      refine ex_if (t := 39) (dg dc209 18 rfl) rfl hf (fun _ hf => ?_) (fun _ hf => ?_)
      · refine ex_pu (ls' := [vR 165, vU]) (st' := [vR 165]) (dg dc209 21 rfl) rfl rfl ?_
        refine ex_pu (ls' := [vR 165, vU]) (st' := [vR 165, vR 165]) (dg dc209 22 rfl) rfl rfl ?_
        refine ex_getI (dg dc209 23 rfl) rfl (LOC.st (Nat.le_of_ble_eq_true rfl) rfl) rfl ?_
        refine ex_pu (ls' := [vR 165, vU]) (st' := [vI 1, vI (M_53 165 12), vR 165]) (dg dc209 24 rfl) rfl rfl ?_
        refine ex_pu (ls' := [vR 165, vU]) (st' := [vI ((M_53 165 12) - 1), vR 165]) (dg dc209 25 rfl) rfl rfl ?_
        refine ex_putI (dg dc209 26 rfl) rfl (LOC.st (Nat.le_of_ble_eq_true rfl) rfl) rfl rfl rfl ?_
        refine ex_gen hf (fun M_55 hM_56 hf => ?_)
        refine ex_pu (ls' := [vR 165, vU]) (st' := [vR 165]) (dg dc209 27 rfl) rfl rfl ?_
        refine ex_pu (ls' := [vR 165, vU]) (st' := [vI 41, vR 165]) (dg dc209 28 rfl) rfl rfl ?_
        refine ex_cI (vs := [vR 165, vI 41]) (st' := []) (F := (mo_isSign 41 M_55)) (Or.inr (Or.inl ⟨rfl, (dg dc209 29 rfl)⟩)) rfl rfl (rk1 (LOC.st (Nat.le_of_ble_eq_true rfl) rfl) rfl) rfl (fun _ r9 => mo_isSign_ok (Z := Z) (d := e9) (by omega)  r9) hf (fun z_59 M_58 he_57 hf => ?_)
        exact ex_irb (dg dc209 30 rfl) rfl hf
      · refine ex_pu (ls' := [vR 165, vU]) (st' := [vI 0]) (dg dc209 19 rfl) rfl rfl ?_
        exact ex_ire (dg dc209 20 rfl) rfl hf
    · refine ex_pu (ls' := [vR 165, vU]) (st' := [vI 0]) (dg dc209 8 rfl) rfl rfl ?_
      exact ex_ire (dg dc209 9 rfl) rfl hf
def mo_readAtom_F : Nat → MM → OR
  | 0, _ => none
  | n + 1, M => mo_readAtom (mo_readAtom_F n)  M
theorem mo_readAtom_F_ok {Z : Nat × (Nat → Int)} : ∀ (n : Nat) {d : Nat}, 8 + 3 * n ≤ d → ∀ {M : MM} {r : AR × MM}, mo_readAtom_F n  M = some r → EX Z d 209 0 (ent 209 [vR 165]) [] M r := by
  intro n
  induction n with
  | zero =>
    intro d hd  M r hf
    unfold mo_readAtom_F at hf
    cases hf
  | succ n ih =>
    intro d hd  M r hf
    unfold mo_readAtom_F at hf
    exact mo_readAtom_ok (by omega) (E9 := 8 + 3 * n) (by omega) (fun he => fun hr => ih he hr) hf
-- GlassHillModel.readLawLine
def il212 : List (Nat × Instr × Nat) := [(0, .sipush 1116, 3), (3, .iconst 4, 1), (4, .iload_n 1, 1), (5, .imul, 1), (6, .iadd, 1), (7, .istore_n 2, 1), (8, .aload_n 0, 1), (9, .ldc 251, 2), (11, .invokevirtual 124, 3), (14, .istore_n 3, 1), (15, .iload_n 3, 1), (16, .ifCond .ne 14, 3), (19, .aload_n 0, 1), (20, .ldc 253, 2), (22, .invokevirtual 124, 3), (25, .ifCond .ne 5, 3), (28, .iconst 0, 1), (29, .ireturn, 1), (30, .aload_n 0, 1), (31, .getfield 13, 3), (34, .iload_n 2, 1), (35, .iload_n 3, 1), (36, .ifCond .eq 7, 3), (39, .iconst 1, 1), (40, .goto 4, 3), (43, .iconst 0, 1), (44, .iastore, 1), (45, .aload_n 0, 1), (46, .getfield 13, 3), (49, .iload_n 2, 1), (50, .iconst 1, 1), (51, .iadd, 1), (52, .iload_n 3, 1), (53, .ifCond .eq 13, 3), (56, .aload_n 0, 1), (57, .iconst 0, 1), (58, .bipush 9, 2), (60, .invokevirtual 128, 3), (63, .goto 4, 3), (66, .iconst 1, 1), (67, .iastore, 1), (68, .aload_n 0, 1), (69, .getfield 13, 3), (72, .iload_n 2, 1), (73, .iconst 1, 1), (74, .iadd, 1), (75, .iaload, 1), (76, .ifCond .ge 5, 3), (79, .iconst 0, 1), (80, .ireturn, 1), (81, .aload_n 0, 1), (82, .getfield 13, 3), (85, .iload_n 2, 1), (86, .iconst 2, 1), (87, .iadd, 1), (88, .aload_n 0, 1), (89, .getfield 207, 3), (92, .iastore, 1), (93, .aload_n 0, 1), (94, .iconst 0, 1), (95, .putfield 228, 3), (98, .aload_n 0, 1), (99, .ldc 255, 2), (101, .invokevirtual 154, 3), (104, .ifCond .eq 12, 3), (107, .aload_n 0, 1), (108, .invokevirtual 231, 3), (111, .ifCond .ne 5, 3), (114, .iconst 0, 1), (115, .ireturn, 1), (116, .aload_n 0, 1), (117, .getfield 13, 3), (120, .iload_n 2, 1), (121, .iconst 3, 1), (122, .iadd, 1), (123, .aload_n 0, 1), (124, .getfield 207, 3), (127, .iastore, 1), (128, .iconst 1, 1), (129, .ireturn, 1)]
theorem dc212 : dcs (mC 212) il212 := dc_of (by decide +kernel)
def mo_readLawLine_J67   (v2 s0 s1 : Int) (M : MM) : OR :=
  (bif inB s1 1964 then (sM (mU M 166 (s1).toNat s0) fun M_6 => (bif inB (v2 + 1) 1964 then (bif cmpB .ge (M_6 166 ((v2 + 1)).toNat) 0 then (bif inB (v2 + 2) 1964 then (sM (mU M_6 166 ((v2 + 2)).toNat (M_6 165 15)) fun M_8 => (sM (mU M_8 165 12 0) fun M_10 => (bI (mo_passes 70 M_10) fun z_14 M_13 => (bif cmpB .eq z_14 0 then (bif inB (v2 + 3) 1964 then (sM (mU M_13 166 ((v2 + 3)).toNat (M_13 165 15)) fun M_15 => some (rI 1, M_15)) else none) else (bI (mo_readCond (mo_readAtom_F 12) M_13) fun z_19 M_18 => (bif cmpB .ne z_19 0 then (bif inB (v2 + 3) 1964 then (sM (mU M_18 166 ((v2 + 3)).toNat (M_18 165 15)) fun M_20 => some (rI 1, M_20)) else none) else some (rI 0, M_18))))))) else none) else some (rI 0, M_6)) else none)) else none)
set_option maxRecDepth 4000 in
theorem mo_readLawLine_J67_ok {Z : Nat × (Nat → Int)} {d : Nat} (hd : 48 ≤ d)   {res : AR × MM}  : ∀ (v2 s0 s1 : Int) (M : MM) (j1 j3 : AV), mo_readLawLine_J67   v2 s0 s1 M = some res → EX Z d 212 67 [vR 165, j1, vI v2, j3] [vI s0, vI s1, vR 166] M res := by
  obtain ⟨e9, rfl⟩ : ∃ e9, d = e9 + 1 := ⟨d - 1, by omega⟩
  intro v2 s0 s1 M j1 j3 hf
  unfold mo_readLawLine_J67 at hf
  refine ex_iast (dg dc212 40 rfl) (LOC.st (Nat.le_of_ble_eq_true rfl) rfl) rfl rfl hf (fun _ hf => ?_)
  refine ex_gen hf (fun M_6 hM_7 hf => ?_)
  refine ex_pu (ls' := [vR 165, j1, vI v2, j3]) (st' := [vR 165]) (dg dc212 41 rfl) rfl rfl ?_
  refine ex_getO (dg dc212 42 rfl) rfl (LOC.st (Nat.le_of_ble_eq_true rfl) rfl) rfl ?_
  show EX Z _ 212 _ [vR 165, j1, vI v2, j3] [vR 166] _ _
  refine ex_pu (ls' := [vR 165, j1, vI v2, j3]) (st' := [vI v2, vR 166]) (dg dc212 43 rfl) rfl rfl ?_
  refine ex_pu (ls' := [vR 165, j1, vI v2, j3]) (st' := [vI 1, vI v2, vR 166]) (dg dc212 44 rfl) rfl rfl ?_
  refine ex_pu (ls' := [vR 165, j1, vI v2, j3]) (st' := [vI (v2 + 1), vR 166]) (dg dc212 45 rfl) rfl rfl ?_
  refine ex_iald (dg dc212 46 rfl) (LOC.st (Nat.le_of_ble_eq_true rfl) rfl) rfl hf (fun _ hf => ?_)
  refine ex_if (t := 81) (dg dc212 47 rfl) rfl hf (fun _ hf => ?_) (fun _ hf => ?_)
  · refine ex_pu (ls' := [vR 165, j1, vI v2, j3]) (st' := [vR 165]) (dg dc212 50 rfl) rfl rfl ?_
    refine ex_getO (dg dc212 51 rfl) rfl (LOC.st (Nat.le_of_ble_eq_true rfl) rfl) rfl ?_
    show EX Z _ 212 _ [vR 165, j1, vI v2, j3] [vR 166] _ _
    refine ex_pu (ls' := [vR 165, j1, vI v2, j3]) (st' := [vI v2, vR 166]) (dg dc212 52 rfl) rfl rfl ?_
    refine ex_pu (ls' := [vR 165, j1, vI v2, j3]) (st' := [vI 2, vI v2, vR 166]) (dg dc212 53 rfl) rfl rfl ?_
    refine ex_pu (ls' := [vR 165, j1, vI v2, j3]) (st' := [vI (v2 + 2), vR 166]) (dg dc212 54 rfl) rfl rfl ?_
    refine ex_pu (ls' := [vR 165, j1, vI v2, j3]) (st' := [vR 165, vI (v2 + 2), vR 166]) (dg dc212 55 rfl) rfl rfl ?_
    refine ex_getI (dg dc212 56 rfl) rfl (LOC.st (Nat.le_of_ble_eq_true rfl) rfl) rfl ?_
    refine ex_iast (dg dc212 57 rfl) (LOC.st (Nat.le_of_ble_eq_true rfl) rfl) rfl rfl hf (fun _ hf => ?_)
    refine ex_gen hf (fun M_8 hM_9 hf => ?_)
    refine ex_pu (ls' := [vR 165, j1, vI v2, j3]) (st' := [vR 165]) (dg dc212 58 rfl) rfl rfl ?_
    refine ex_pu (ls' := [vR 165, j1, vI v2, j3]) (st' := [vI 0, vR 165]) (dg dc212 59 rfl) rfl rfl ?_
    refine ex_putI (dg dc212 60 rfl) rfl (LOC.st (Nat.le_of_ble_eq_true rfl) rfl) rfl rfl rfl ?_
    refine ex_gen hf (fun M_10 hM_11 hf => ?_)
    refine ex_pu (ls' := [vR 165, j1, vI v2, j3]) (st' := [vR 165]) (dg dc212 61 rfl) rfl rfl ?_
    refine ex_ldcT (dg dc212 62 rfl) rfl ?_
    refine ex_cI (vs := [vR 165, vR (E0 + 2 + 2 * 70)]) (st' := []) (F := (mo_passes 70 M_10)) (Or.inr (Or.inl ⟨rfl, (dg dc212 63 rfl)⟩)) rfl rfl (rk1 (LOC.st (Nat.le_of_ble_eq_true rfl) rfl) rfl) rfl (fun _ r9 => mo_passes_ok (Z := Z) (d := e9) (by omega) (by decide)  r9) hf (fun z_14 M_13 he_12 hf => ?_)
    refine ex_if (t := 116) (dg dc212 64 rfl) rfl hf (fun _ hf => ?_) (fun _ hf => ?_)
    · refine ex_pu (ls' := [vR 165, j1, vI v2, j3]) (st' := [vR 165]) (dg dc212 70 rfl) rfl rfl ?_
      refine ex_getO (dg dc212 71 rfl) rfl (LOC.st (Nat.le_of_ble_eq_true rfl) rfl) rfl ?_
      show EX Z _ 212 _ [vR 165, j1, vI v2, j3] [vR 166] _ _
      refine ex_pu (ls' := [vR 165, j1, vI v2, j3]) (st' := [vI v2, vR 166]) (dg dc212 72 rfl) rfl rfl ?_
      refine ex_pu (ls' := [vR 165, j1, vI v2, j3]) (st' := [vI 3, vI v2, vR 166]) (dg dc212 73 rfl) rfl rfl ?_
      refine ex_pu (ls' := [vR 165, j1, vI v2, j3]) (st' := [vI (v2 + 3), vR 166]) (dg dc212 74 rfl) rfl rfl ?_
      refine ex_pu (ls' := [vR 165, j1, vI v2, j3]) (st' := [vR 165, vI (v2 + 3), vR 166]) (dg dc212 75 rfl) rfl rfl ?_
      refine ex_getI (dg dc212 76 rfl) rfl (LOC.st (Nat.le_of_ble_eq_true rfl) rfl) rfl ?_
      refine ex_iast (dg dc212 77 rfl) (LOC.st (Nat.le_of_ble_eq_true rfl) rfl) rfl rfl hf (fun _ hf => ?_)
      refine ex_gen hf (fun M_15 hM_16 hf => ?_)
      refine ex_pu (ls' := [vR 165, j1, vI v2, j3]) (st' := [vI 1]) (dg dc212 78 rfl) rfl rfl ?_
      exact ex_ire (dg dc212 79 rfl) rfl hf
    · refine ex_pu (ls' := [vR 165, j1, vI v2, j3]) (st' := [vR 165]) (dg dc212 65 rfl) rfl rfl ?_
      refine ex_cI (vs := [vR 165]) (st' := []) (F := (mo_readCond (mo_readAtom_F 12) M_13)) (Or.inr (Or.inl ⟨rfl, (dg dc212 66 rfl)⟩)) rfl rfl (rk1 (LOC.st (Nat.le_of_ble_eq_true rfl) rfl) rfl) rfl (fun _ r9 => mo_readCond_ok (Z := Z) (d := e9) (by omega) (E9 := 44) (by omega) (fun he => fun hr => mo_readAtom_F_ok 12 he hr)  r9) hf (fun z_19 M_18 he_17 hf => ?_)
      refine ex_if (t := 116) (dg dc212 67 rfl) rfl hf (fun _ hf => ?_) (fun _ hf => ?_)
      · refine ex_pu (ls' := [vR 165, j1, vI v2, j3]) (st' := [vR 165]) (dg dc212 70 rfl) rfl rfl ?_
        refine ex_getO (dg dc212 71 rfl) rfl (LOC.st (Nat.le_of_ble_eq_true rfl) rfl) rfl ?_
        show EX Z _ 212 _ [vR 165, j1, vI v2, j3] [vR 166] _ _
        refine ex_pu (ls' := [vR 165, j1, vI v2, j3]) (st' := [vI v2, vR 166]) (dg dc212 72 rfl) rfl rfl ?_
        refine ex_pu (ls' := [vR 165, j1, vI v2, j3]) (st' := [vI 3, vI v2, vR 166]) (dg dc212 73 rfl) rfl rfl ?_
        refine ex_pu (ls' := [vR 165, j1, vI v2, j3]) (st' := [vI (v2 + 3), vR 166]) (dg dc212 74 rfl) rfl rfl ?_
        refine ex_pu (ls' := [vR 165, j1, vI v2, j3]) (st' := [vR 165, vI (v2 + 3), vR 166]) (dg dc212 75 rfl) rfl rfl ?_
        refine ex_getI (dg dc212 76 rfl) rfl (LOC.st (Nat.le_of_ble_eq_true rfl) rfl) rfl ?_
        refine ex_iast (dg dc212 77 rfl) (LOC.st (Nat.le_of_ble_eq_true rfl) rfl) rfl rfl hf (fun _ hf => ?_)
        refine ex_gen hf (fun M_20 hM_21 hf => ?_)
        refine ex_pu (ls' := [vR 165, j1, vI v2, j3]) (st' := [vI 1]) (dg dc212 78 rfl) rfl rfl ?_
        exact ex_ire (dg dc212 79 rfl) rfl hf
      · refine ex_pu (ls' := [vR 165, j1, vI v2, j3]) (st' := [vI 0]) (dg dc212 68 rfl) rfl rfl ?_
        exact ex_ire (dg dc212 69 rfl) rfl hf
  · refine ex_pu (ls' := [vR 165, j1, vI v2, j3]) (st' := [vI 0]) (dg dc212 48 rfl) rfl rfl ?_
    exact ex_ire (dg dc212 49 rfl) rfl hf
def mo_readLawLine_J44   (v2 v3 s0 s1 : Int) (M : MM) : OR :=
  (bif inB s1 1964 then (sM (mU M 166 (s1).toNat s0) fun M_4 => (bif cmpB .eq v3 0 then (mo_readLawLine_J67   v2 1 (v2 + 1) M_4) else (bI (mo_number 0 9 M_4) fun z_24 M_23 => (mo_readLawLine_J67   v2 z_24 (v2 + 1) M_23)))) else none)
set_option maxRecDepth 4000 in
theorem mo_readLawLine_J44_ok {Z : Nat × (Nat → Int)} {d : Nat} (hd : 48 ≤ d)   {res : AR × MM}  : ∀ (v2 v3 s0 s1 : Int) (M : MM) (j1 : AV), mo_readLawLine_J44   v2 v3 s0 s1 M = some res → EX Z d 212 44 [vR 165, j1, vI v2, vI v3] [vI s0, vI s1, vR 166] M res := by
  obtain ⟨e9, rfl⟩ : ∃ e9, d = e9 + 1 := ⟨d - 1, by omega⟩
  intro v2 v3 s0 s1 M j1 hf
  unfold mo_readLawLine_J44 at hf
  refine ex_iast (dg dc212 26 rfl) (LOC.st (Nat.le_of_ble_eq_true rfl) rfl) rfl rfl hf (fun _ hf => ?_)
  refine ex_gen hf (fun M_4 hM_5 hf => ?_)
  refine ex_pu (ls' := [vR 165, j1, vI v2, vI v3]) (st' := [vR 165]) (dg dc212 27 rfl) rfl rfl ?_
  refine ex_getO (dg dc212 28 rfl) rfl (LOC.st (Nat.le_of_ble_eq_true rfl) rfl) rfl ?_
  show EX Z _ 212 _ [vR 165, j1, vI v2, vI v3] [vR 166] _ _
  refine ex_pu (ls' := [vR 165, j1, vI v2, vI v3]) (st' := [vI v2, vR 166]) (dg dc212 29 rfl) rfl rfl ?_
  refine ex_pu (ls' := [vR 165, j1, vI v2, vI v3]) (st' := [vI 1, vI v2, vR 166]) (dg dc212 30 rfl) rfl rfl ?_
  refine ex_pu (ls' := [vR 165, j1, vI v2, vI v3]) (st' := [vI (v2 + 1), vR 166]) (dg dc212 31 rfl) rfl rfl ?_
  refine ex_pu (ls' := [vR 165, j1, vI v2, vI v3]) (st' := [vI v3, vI (v2 + 1), vR 166]) (dg dc212 32 rfl) rfl rfl ?_
  refine ex_if (t := 66) (dg dc212 33 rfl) rfl hf (fun _ hf => ?_) (fun _ hf => ?_)
  · refine ex_pu (ls' := [vR 165, j1, vI v2, vI v3]) (st' := [vI 1, vI (v2 + 1), vR 166]) (dg dc212 39 rfl) rfl rfl ?_
    exact mo_readLawLine_J67_ok hd   v2 1 (v2 + 1) M_4 _ _ hf
  · refine ex_pu (ls' := [vR 165, j1, vI v2, vI v3]) (st' := [vR 165, vI (v2 + 1), vR 166]) (dg dc212 34 rfl) rfl rfl ?_
    refine ex_pu (ls' := [vR 165, j1, vI v2, vI v3]) (st' := [vI 0, vR 165, vI (v2 + 1), vR 166]) (dg dc212 35 rfl) rfl rfl ?_
    refine ex_pu (ls' := [vR 165, j1, vI v2, vI v3]) (st' := [vI 9, vI 0, vR 165, vI (v2 + 1), vR 166]) (dg dc212 36 rfl) rfl rfl ?_
    refine ex_cI (vs := [vR 165, vI 0, vI 9]) (st' := [vI (v2 + 1), vR 166]) (F := (mo_number 0 9 M_4)) (Or.inr (Or.inl ⟨rfl, (dg dc212 37 rfl)⟩)) rfl rfl (rk1 (LOC.st (Nat.le_of_ble_eq_true rfl) rfl) rfl) rfl (fun _ r9 => mo_number_ok (Z := Z) (d := e9) (by omega)  r9) hf (fun z_24 M_23 he_22 hf => ?_)
    refine ex_goto (t := 67) (dg dc212 38 rfl) rfl rfl ?_
    exact mo_readLawLine_J67_ok hd   v2 z_24 (v2 + 1) M_23 _ _ hf
def mo_readLawLine_J30   (v2 v3 : Int) (M : MM) : OR :=
  (bif cmpB .eq v3 0 then (mo_readLawLine_J44   v2 v3 0 v2 M) else (mo_readLawLine_J44   v2 v3 1 v2 M))
set_option maxRecDepth 4000 in
theorem mo_readLawLine_J30_ok {Z : Nat × (Nat → Int)} {d : Nat} (hd : 48 ≤ d)   {res : AR × MM}  : ∀ (v2 v3 : Int) (M : MM) (j1 : AV), mo_readLawLine_J30   v2 v3 M = some res → EX Z d 212 30 [vR 165, j1, vI v2, vI v3] [] M res := by
  obtain ⟨e9, rfl⟩ : ∃ e9, d = e9 + 1 := ⟨d - 1, by omega⟩
  intro v2 v3 M j1 hf
  unfold mo_readLawLine_J30 at hf
  refine ex_pu (ls' := [vR 165, j1, vI v2, vI v3]) (st' := [vR 165]) (dg dc212 18 rfl) rfl rfl ?_
  refine ex_getO (dg dc212 19 rfl) rfl (LOC.st (Nat.le_of_ble_eq_true rfl) rfl) rfl ?_
  show EX Z _ 212 _ [vR 165, j1, vI v2, vI v3] [vR 166] _ _
  refine ex_pu (ls' := [vR 165, j1, vI v2, vI v3]) (st' := [vI v2, vR 166]) (dg dc212 20 rfl) rfl rfl ?_
  refine ex_pu (ls' := [vR 165, j1, vI v2, vI v3]) (st' := [vI v3, vI v2, vR 166]) (dg dc212 21 rfl) rfl rfl ?_
  refine ex_if (t := 43) (dg dc212 22 rfl) rfl hf (fun _ hf => ?_) (fun _ hf => ?_)
  · refine ex_pu (ls' := [vR 165, j1, vI v2, vI v3]) (st' := [vI 0, vI v2, vR 166]) (dg dc212 25 rfl) rfl rfl ?_
    exact mo_readLawLine_J44_ok hd   v2 v3 0 v2 M _ hf
  · refine ex_pu (ls' := [vR 165, j1, vI v2, vI v3]) (st' := [vI 1, vI v2, vR 166]) (dg dc212 23 rfl) rfl rfl ?_
    refine ex_goto (t := 44) (dg dc212 24 rfl) rfl rfl ?_
    exact mo_readLawLine_J44_ok hd   v2 v3 1 v2 M _ hf
def mo_readLawLine (v1 : Int) (M : MM) : OR :=
  (bI (mo_isWord 68 M) fun z_3 M_2 => (bif cmpB .ne z_3 0 then (mo_readLawLine_J30   (1116 + (4 * v1)) z_3 M_2) else (bI (mo_isWord 69 M_2) fun z_27 M_26 => (bif cmpB .ne z_27 0 then (mo_readLawLine_J30   (1116 + (4 * v1)) z_3 M_26) else some (rI 0, M_26)))))
set_option maxRecDepth 4000 in
theorem mo_readLawLine_ok {Z : Nat × (Nat → Int)} {d : Nat} (hd : 48 ≤ d) {M : MM}  {v1 : Int} {res : AR × MM} (hf : mo_readLawLine v1 M = some res) : EX Z d 212 0 (ent 212 [vR 165, vI v1]) [] M res := by
  obtain ⟨e9, rfl⟩ : ∃ e9, d = e9 + 1 := ⟨d - 1, by omega⟩
  unfold mo_readLawLine at hf
  show EX Z _ 212 0 [vR 165, vI v1, vU, vU] [] M res
  refine ex_pu (ls' := [vR 165, vI v1, vU, vU]) (st' := [vI 1116]) (dg dc212 0 rfl) rfl rfl ?_
  refine ex_pu (ls' := [vR 165, vI v1, vU, vU]) (st' := [vI 4, vI 1116]) (dg dc212 1 rfl) rfl rfl ?_
  refine ex_pu (ls' := [vR 165, vI v1, vU, vU]) (st' := [vI v1, vI 4, vI 1116]) (dg dc212 2 rfl) rfl rfl ?_
  refine ex_pu (ls' := [vR 165, vI v1, vU, vU]) (st' := [vI (4 * v1), vI 1116]) (dg dc212 3 rfl) rfl rfl ?_
  refine ex_pu (ls' := [vR 165, vI v1, vU, vU]) (st' := [vI (1116 + (4 * v1))]) (dg dc212 4 rfl) rfl rfl ?_
  refine ex_pu (ls' := [vR 165, vI v1, vI (1116 + (4 * v1)), vU]) (st' := []) (dg dc212 5 rfl) rfl rfl ?_
  refine ex_pu (ls' := [vR 165, vI v1, vI (1116 + (4 * v1)), vU]) (st' := [vR 165]) (dg dc212 6 rfl) rfl rfl ?_
  refine ex_ldcT (dg dc212 7 rfl) rfl ?_
  refine ex_cI (vs := [vR 165, vR (E0 + 2 + 2 * 68)]) (st' := []) (F := (mo_isWord 68 M)) (Or.inr (Or.inl ⟨rfl, (dg dc212 8 rfl)⟩)) rfl rfl (rk1 (LOC.st (Nat.le_of_ble_eq_true rfl) rfl) rfl) rfl (fun _ r9 => mo_isWord_ok (Z := Z) (d := e9) (by omega) (by decide)  r9) hf (fun z_3 M_2 he_1 hf => ?_)
  refine ex_pu (ls' := [vR 165, vI v1, vI (1116 + (4 * v1)), vI z_3]) (st' := []) (dg dc212 9 rfl) rfl rfl ?_
  refine ex_pu (ls' := [vR 165, vI v1, vI (1116 + (4 * v1)), vI z_3]) (st' := [vI z_3]) (dg dc212 10 rfl) rfl rfl ?_
  refine ex_if (t := 30) (dg dc212 11 rfl) rfl hf (fun _ hf => ?_) (fun _ hf => ?_)
  · exact mo_readLawLine_J30_ok hd   (1116 + (4 * v1)) z_3 M_2 _ hf
  · refine ex_pu (ls' := [vR 165, vI v1, vI (1116 + (4 * v1)), vI z_3]) (st' := [vR 165]) (dg dc212 12 rfl) rfl rfl ?_
    refine ex_ldcT (dg dc212 13 rfl) rfl ?_
    refine ex_cI (vs := [vR 165, vR (E0 + 2 + 2 * 69)]) (st' := []) (F := (mo_isWord 69 M_2)) (Or.inr (Or.inl ⟨rfl, (dg dc212 14 rfl)⟩)) rfl rfl (rk1 (LOC.st (Nat.le_of_ble_eq_true rfl) rfl) rfl) rfl (fun _ r9 => mo_isWord_ok (Z := Z) (d := e9) (by omega) (by decide)  r9) hf (fun z_27 M_26 he_25 hf => ?_)
    refine ex_if (t := 30) (dg dc212 15 rfl) rfl hf (fun _ hf => ?_) (fun _ hf => ?_)
    · exact mo_readLawLine_J30_ok hd   (1116 + (4 * v1)) z_3 M_26 _ hf
    · refine ex_pu (ls' := [vR 165, vI v1, vI (1116 + (4 * v1)), vI z_3]) (st' := [vI 0]) (dg dc212 16 rfl) rfl rfl ?_
      exact ex_ire (dg dc212 17 rfl) rfl hf
-- GlassHillModel.readLine
def il213 : List (Nat × Instr × Nat) := [(0, .aload_n 0, 1), (1, .invokevirtual 121, 3), (4, .iload_n 2, 1), (5, .iload_n 1, 1), (6, .ifCond .eq 8, 3), (9, .bipush 14, 2), (11, .goto 5, 3), (14, .bipush 12, 2), (16, .if_icmp .ge 29, 3), (19, .iload_n 1, 1), (20, .ifCond .eq 13, 3), (23, .aload_n 0, 1), (24, .invokevirtual 257, 3), (27, .ifCond .eq 18, 3), (30, .goto 11, 3), (33, .aload_n 0, 1), (34, .iload_n 2, 1), (35, .invokevirtual 260, 3), (38, .ifCond .eq 7, 3), (41, .iconst 1, 1), (42, .goto 4, 3), (45, .iconst 0, 1), (46, .ireturn, 1)]
theorem dc213 : dcs (mC 213) il213 := dc_of (by decide +kernel)
def mo_readLine (v1 : Int) (v2 : Int) (M : MM) : OR :=
  (bV (mo_letters  M) fun M_2 => (bif cmpB .eq v1 0 then (bif cmpB .ge v2 12 then some (rI 0, M_2) else (bif cmpB .eq v1 0 then (bI (mo_readLawLine v2 M_2) fun z_6 M_5 => (bif cmpB .eq z_6 0 then some (rI 0, M_5) else some (rI 1, M_5))) else (bI (mo_readTaleLine  M_2) fun z_9 M_8 => (bif cmpB .eq z_9 0 then some (rI 0, M_8) else some (rI 1, M_8))))) else (bif cmpB .ge v2 14 then some (rI 0, M_2) else (bif cmpB .eq v1 0 then (bI (mo_readLawLine v2 M_2) fun z_12 M_11 => (bif cmpB .eq z_12 0 then some (rI 0, M_11) else some (rI 1, M_11))) else (bI (mo_readTaleLine  M_2) fun z_15 M_14 => (bif cmpB .eq z_15 0 then some (rI 0, M_14) else some (rI 1, M_14)))))))
set_option maxRecDepth 4000 in
theorem mo_readLine_ok {Z : Nat × (Nat → Int)} {d : Nat} (hd : 49 ≤ d) {M : MM}  {v1 v2 : Int} {res : AR × MM} (hf : mo_readLine v1 v2 M = some res) : EX Z d 213 0 (ent 213 [vR 165, vI v1, vI v2]) [] M res := by
  obtain ⟨e9, rfl⟩ : ∃ e9, d = e9 + 1 := ⟨d - 1, by omega⟩
  unfold mo_readLine at hf
  show EX Z _ 213 0 [vR 165, vI v1, vI v2] [] M res
  refine ex_pu (ls' := [vR 165, vI v1, vI v2]) (st' := [vR 165]) (dg dc213 0 rfl) rfl rfl ?_
  refine ex_cV (vs := [vR 165]) (st' := []) (F := (mo_letters  M)) (Or.inr (Or.inl ⟨rfl, (dg dc213 1 rfl)⟩)) rfl rfl (rk1 (LOC.st (Nat.le_of_ble_eq_true rfl) rfl) rfl) rfl (fun _ r9 => mo_letters_ok (Z := Z) (d := e9) (by omega)  r9) hf (fun M_2 he_1 hf => ?_)
  refine ex_pu (ls' := [vR 165, vI v1, vI v2]) (st' := [vI v2]) (dg dc213 2 rfl) rfl rfl ?_
  refine ex_pu (ls' := [vR 165, vI v1, vI v2]) (st' := [vI v1, vI v2]) (dg dc213 3 rfl) rfl rfl ?_
  refine ex_if (t := 14) (dg dc213 4 rfl) rfl hf (fun _ hf => ?_) (fun _ hf => ?_)
  · refine ex_pu (ls' := [vR 165, vI v1, vI v2]) (st' := [vI 12, vI v2]) (dg dc213 7 rfl) rfl rfl ?_
    refine ex_icmp (t := 45) (dg dc213 8 rfl) rfl hf (fun _ hf => ?_) (fun _ hf => ?_)
    · refine ex_pu (ls' := [vR 165, vI v1, vI v2]) (st' := [vI 0]) (dg dc213 21 rfl) rfl rfl ?_
      exact ex_ire (dg dc213 22 rfl) rfl hf
    · refine ex_pu (ls' := [vR 165, vI v1, vI v2]) (st' := [vI v1]) (dg dc213 9 rfl) rfl rfl ?_
      refine ex_if (t := 33) (dg dc213 10 rfl) rfl hf (fun _ hf => ?_) (fun _ hf => ?_)
      · refine ex_pu (ls' := [vR 165, vI v1, vI v2]) (st' := [vR 165]) (dg dc213 15 rfl) rfl rfl ?_
        refine ex_pu (ls' := [vR 165, vI v1, vI v2]) (st' := [vI v2, vR 165]) (dg dc213 16 rfl) rfl rfl ?_
        refine ex_cI (vs := [vR 165, vI v2]) (st' := []) (F := (mo_readLawLine v2 M_2)) (Or.inr (Or.inl ⟨rfl, (dg dc213 17 rfl)⟩)) rfl rfl (rk1 (LOC.st (Nat.le_of_ble_eq_true rfl) rfl) rfl) rfl (fun _ r9 => mo_readLawLine_ok (Z := Z) (d := e9) (by omega)  r9) hf (fun z_6 M_5 he_4 hf => ?_)
        refine ex_if (t := 45) (dg dc213 18 rfl) rfl hf (fun _ hf => ?_) (fun _ hf => ?_)
        · refine ex_pu (ls' := [vR 165, vI v1, vI v2]) (st' := [vI 0]) (dg dc213 21 rfl) rfl rfl ?_
          exact ex_ire (dg dc213 22 rfl) rfl hf
        · refine ex_pu (ls' := [vR 165, vI v1, vI v2]) (st' := [vI 1]) (dg dc213 19 rfl) rfl rfl ?_
          refine ex_goto (t := 46) (dg dc213 20 rfl) rfl rfl ?_
          exact ex_ire (dg dc213 22 rfl) rfl hf
      · refine ex_pu (ls' := [vR 165, vI v1, vI v2]) (st' := [vR 165]) (dg dc213 11 rfl) rfl rfl ?_
        refine ex_cI (vs := [vR 165]) (st' := []) (F := (mo_readTaleLine  M_2)) (Or.inr (Or.inl ⟨rfl, (dg dc213 12 rfl)⟩)) rfl rfl (rk1 (LOC.st (Nat.le_of_ble_eq_true rfl) rfl) rfl) rfl (fun _ r9 => mo_readTaleLine_ok (Z := Z) (d := e9) (by omega)  r9) hf (fun z_9 M_8 he_7 hf => ?_)
        refine ex_if (t := 45) (dg dc213 13 rfl) rfl hf (fun _ hf => ?_) (fun _ hf => ?_)
        · refine ex_pu (ls' := [vR 165, vI v1, vI v2]) (st' := [vI 0]) (dg dc213 21 rfl) rfl rfl ?_
          exact ex_ire (dg dc213 22 rfl) rfl hf
        · refine ex_goto (t := 41) (dg dc213 14 rfl) rfl rfl ?_
          refine ex_pu (ls' := [vR 165, vI v1, vI v2]) (st' := [vI 1]) (dg dc213 19 rfl) rfl rfl ?_
          refine ex_goto (t := 46) (dg dc213 20 rfl) rfl rfl ?_
          exact ex_ire (dg dc213 22 rfl) rfl hf
  · refine ex_pu (ls' := [vR 165, vI v1, vI v2]) (st' := [vI 14, vI v2]) (dg dc213 5 rfl) rfl rfl ?_
    refine ex_goto (t := 16) (dg dc213 6 rfl) rfl rfl ?_
    refine ex_icmp (t := 45) (dg dc213 8 rfl) rfl hf (fun _ hf => ?_) (fun _ hf => ?_)
    · refine ex_pu (ls' := [vR 165, vI v1, vI v2]) (st' := [vI 0]) (dg dc213 21 rfl) rfl rfl ?_
      exact ex_ire (dg dc213 22 rfl) rfl hf
    · refine ex_pu (ls' := [vR 165, vI v1, vI v2]) (st' := [vI v1]) (dg dc213 9 rfl) rfl rfl ?_
      refine ex_if (t := 33) (dg dc213 10 rfl) rfl hf (fun _ hf => ?_) (fun _ hf => ?_)
      · refine ex_pu (ls' := [vR 165, vI v1, vI v2]) (st' := [vR 165]) (dg dc213 15 rfl) rfl rfl ?_
        refine ex_pu (ls' := [vR 165, vI v1, vI v2]) (st' := [vI v2, vR 165]) (dg dc213 16 rfl) rfl rfl ?_
        refine ex_cI (vs := [vR 165, vI v2]) (st' := []) (F := (mo_readLawLine v2 M_2)) (Or.inr (Or.inl ⟨rfl, (dg dc213 17 rfl)⟩)) rfl rfl (rk1 (LOC.st (Nat.le_of_ble_eq_true rfl) rfl) rfl) rfl (fun _ r9 => mo_readLawLine_ok (Z := Z) (d := e9) (by omega)  r9) hf (fun z_12 M_11 he_10 hf => ?_)
        refine ex_if (t := 45) (dg dc213 18 rfl) rfl hf (fun _ hf => ?_) (fun _ hf => ?_)
        · refine ex_pu (ls' := [vR 165, vI v1, vI v2]) (st' := [vI 0]) (dg dc213 21 rfl) rfl rfl ?_
          exact ex_ire (dg dc213 22 rfl) rfl hf
        · refine ex_pu (ls' := [vR 165, vI v1, vI v2]) (st' := [vI 1]) (dg dc213 19 rfl) rfl rfl ?_
          refine ex_goto (t := 46) (dg dc213 20 rfl) rfl rfl ?_
          exact ex_ire (dg dc213 22 rfl) rfl hf
      · refine ex_pu (ls' := [vR 165, vI v1, vI v2]) (st' := [vR 165]) (dg dc213 11 rfl) rfl rfl ?_
        refine ex_cI (vs := [vR 165]) (st' := []) (F := (mo_readTaleLine  M_2)) (Or.inr (Or.inl ⟨rfl, (dg dc213 12 rfl)⟩)) rfl rfl (rk1 (LOC.st (Nat.le_of_ble_eq_true rfl) rfl) rfl) rfl (fun _ r9 => mo_readTaleLine_ok (Z := Z) (d := e9) (by omega)  r9) hf (fun z_15 M_14 he_13 hf => ?_)
        refine ex_if (t := 45) (dg dc213 13 rfl) rfl hf (fun _ hf => ?_) (fun _ hf => ?_)
        · refine ex_pu (ls' := [vR 165, vI v1, vI v2]) (st' := [vI 0]) (dg dc213 21 rfl) rfl rfl ?_
          exact ex_ire (dg dc213 22 rfl) rfl hf
        · refine ex_goto (t := 41) (dg dc213 14 rfl) rfl rfl ?_
          refine ex_pu (ls' := [vR 165, vI v1, vI v2]) (st' := [vI 1]) (dg dc213 19 rfl) rfl rfl ?_
          refine ex_goto (t := 46) (dg dc213 20 rfl) rfl rfl ?_
          exact ex_ire (dg dc213 22 rfl) rfl hf
-- GlassHillModel.readAll
def il214 : List (Nat × Instr × Nat) := [(0, .aload_n 0, 1), (1, .invokevirtual 263, 3), (4, .aload_n 0, 1), (5, .iconst 0, 1), (6, .putfield 207, 3), (9, .aload_n 0, 1), (10, .invokevirtual 109, 3), (13, .aload_n 0, 1), (14, .getfield 96, 3), (17, .aload_n 0, 1), (18, .getfield 99, 3), (21, .if_icmp .ne 5, 3), (24, .iconst 0, 1), (25, .ireturn, 1), (26, .iconst 0, 1), (27, .istore_n 2, 1), (28, .aload_n 0, 1), (29, .iload_n 1, 1), (30, .iload_n 2, 1), (31, .invokevirtual 266, 3), (34, .ifCond .ne 5, 3), (37, .iconst (-1), 1), (38, .ireturn, 1), (39, .aload_n 0, 1), (40, .invokevirtual 109, 3), (43, .aload_n 0, 1), (44, .getfield 96, 3), (47, .aload_n 0, 1), (48, .getfield 99, 3), (51, .if_icmp .ne 7, 3), (54, .iload_n 2, 1), (55, .iconst 1, 1), (56, .iadd, 1), (57, .ireturn, 1), (58, .aload_n 0, 1), (59, .bipush 59, 2), (61, .bipush 59, 2), (63, .invokevirtual 102, 3), (66, .ifCond .ne 5, 3), (69, .iconst (-1), 1), (70, .ireturn, 1), (71, .aload_n 0, 1), (72, .dup, 1), (73, .getfield 96, 3), (76, .iconst 1, 1), (77, .iadd, 1), (78, .putfield 96, 3), (81, .iinc 2 1, 3), (84, .goto (-56), 3)]
theorem dc214 : dcs (mC 214) il214 := dc_of (by decide +kernel)
def mo_readAll_L28  (v1 : Int) (K1 : MM → OR) (K2 : Int → MM → OR) (K3 : MM → OR) : Nat → Int → MM → OR
  | 0, _, _ => none
  | n + 1, v2, M => (bI (mo_readLine v1 v2 M) fun z_11 M_10 => (bif cmpB .ne z_11 0 then (bV (mo_blanks  M_10) fun M_13 => (bif cmpB .ne (M_13 165 9) (M_13 165 10) then (bI (mo_isAt 59 59 M_13) fun z_17 M_16 => (bif cmpB .ne z_17 0 then (sM (mU M_16 165 9 ((M_16 165 9) + 1)) fun M_18 => (mo_readAll_L28 v1 K1 K2 K3 n (v2 + 1) M_18)) else (K3  M_16))) else (K2 v2 M_13))) else (K1  M_10)))
set_option maxRecDepth 4000 in
theorem mo_readAll_L28_ok {Z : Nat × (Nat → Int)} {d : Nat} (hd : 50 ≤ d)  {v1 : Int} {K1 : MM → OR} {K2 : Int → MM → OR} {K3 : MM → OR} {res : AR × MM} (k1 : ∀ (M : MM) (j0 j1 j2 : AV), K1  M = some res → EX Z d 214 37 [j0, j1, j2] [] M res) (k2 : ∀ (x2 : Int) (M : MM) (j0 j1 : AV), K2 x2 M = some res → EX Z d 214 54 [j0, j1, vI x2] [] M res) (k3 : ∀ (M : MM) (j0 j1 j2 : AV), K3  M = some res → EX Z d 214 69 [j0, j1, j2] [] M res) : ∀ (n : Nat) (v2 : Int) (M : MM), mo_readAll_L28 v1 K1 K2 K3 n v2 M = some res → EX Z d 214 28 [vR 165, vI v1, vI v2] [] M res := by
  obtain ⟨e9, rfl⟩ : ∃ e9, d = e9 + 1 := ⟨d - 1, by omega⟩
  intro n
  induction n with
  | zero =>
    intro v2 M hf
    unfold mo_readAll_L28 at hf
    cases hf
  | succ n ih =>
    intro v2 M hf
    unfold mo_readAll_L28 at hf
    refine ex_pu (ls' := [vR 165, vI v1, vI v2]) (st' := [vR 165]) (dg dc214 16 rfl) rfl rfl ?_
    refine ex_pu (ls' := [vR 165, vI v1, vI v2]) (st' := [vI v1, vR 165]) (dg dc214 17 rfl) rfl rfl ?_
    refine ex_pu (ls' := [vR 165, vI v1, vI v2]) (st' := [vI v2, vI v1, vR 165]) (dg dc214 18 rfl) rfl rfl ?_
    refine ex_cI (vs := [vR 165, vI v1, vI v2]) (st' := []) (F := (mo_readLine v1 v2 M)) (Or.inr (Or.inl ⟨rfl, (dg dc214 19 rfl)⟩)) rfl rfl (rk1 (LOC.st (Nat.le_of_ble_eq_true rfl) rfl) rfl) rfl (fun _ r9 => mo_readLine_ok (Z := Z) (d := e9) (by omega)  r9) hf (fun z_11 M_10 he_9 hf => ?_)
    refine ex_if (t := 39) (dg dc214 20 rfl) rfl hf (fun _ hf => ?_) (fun _ hf => ?_)
    · refine ex_pu (ls' := [vR 165, vI v1, vI v2]) (st' := [vR 165]) (dg dc214 23 rfl) rfl rfl ?_
      refine ex_cV (vs := [vR 165]) (st' := []) (F := (mo_blanks  M_10)) (Or.inr (Or.inl ⟨rfl, (dg dc214 24 rfl)⟩)) rfl rfl (rk1 (LOC.st (Nat.le_of_ble_eq_true rfl) rfl) rfl) rfl (fun _ r9 => mo_blanks_ok (Z := Z) (d := e9) (by omega)  r9) hf (fun M_13 he_12 hf => ?_)
      refine ex_pu (ls' := [vR 165, vI v1, vI v2]) (st' := [vR 165]) (dg dc214 25 rfl) rfl rfl ?_
      refine ex_getI (dg dc214 26 rfl) rfl (LOC.st (Nat.le_of_ble_eq_true rfl) rfl) rfl ?_
      refine ex_pu (ls' := [vR 165, vI v1, vI v2]) (st' := [vR 165, vI (M_13 165 9)]) (dg dc214 27 rfl) rfl rfl ?_
      refine ex_getI (dg dc214 28 rfl) rfl (LOC.st (Nat.le_of_ble_eq_true rfl) rfl) rfl ?_
      refine ex_icmp (t := 58) (dg dc214 29 rfl) rfl hf (fun _ hf => ?_) (fun _ hf => ?_)
      · refine ex_pu (ls' := [vR 165, vI v1, vI v2]) (st' := [vR 165]) (dg dc214 34 rfl) rfl rfl ?_
        refine ex_pu (ls' := [vR 165, vI v1, vI v2]) (st' := [vI 59, vR 165]) (dg dc214 35 rfl) rfl rfl ?_
        refine ex_pu (ls' := [vR 165, vI v1, vI v2]) (st' := [vI 59, vI 59, vR 165]) (dg dc214 36 rfl) rfl rfl ?_
        refine ex_cI (vs := [vR 165, vI 59, vI 59]) (st' := []) (F := (mo_isAt 59 59 M_13)) (Or.inr (Or.inl ⟨rfl, (dg dc214 37 rfl)⟩)) rfl rfl (rk1 (LOC.st (Nat.le_of_ble_eq_true rfl) rfl) rfl) rfl (fun _ r9 => mo_isAt_ok (Z := Z) (d := e9) (by omega)  r9) hf (fun z_17 M_16 he_15 hf => ?_)
        refine ex_if (t := 71) (dg dc214 38 rfl) rfl hf (fun _ hf => ?_) (fun _ hf => ?_)
        · refine ex_pu (ls' := [vR 165, vI v1, vI v2]) (st' := [vR 165]) (dg dc214 41 rfl) rfl rfl ?_
          refine ex_pu (ls' := [vR 165, vI v1, vI v2]) (st' := [vR 165, vR 165]) (dg dc214 42 rfl) rfl rfl ?_
          refine ex_getI (dg dc214 43 rfl) rfl (LOC.st (Nat.le_of_ble_eq_true rfl) rfl) rfl ?_
          refine ex_pu (ls' := [vR 165, vI v1, vI v2]) (st' := [vI 1, vI (M_16 165 9), vR 165]) (dg dc214 44 rfl) rfl rfl ?_
          refine ex_pu (ls' := [vR 165, vI v1, vI v2]) (st' := [vI ((M_16 165 9) + 1), vR 165]) (dg dc214 45 rfl) rfl rfl ?_
          refine ex_putI (dg dc214 46 rfl) rfl (LOC.st (Nat.le_of_ble_eq_true rfl) rfl) rfl rfl rfl ?_
          refine ex_gen hf (fun M_18 hM_19 hf => ?_)
          refine ex_pu (ls' := [vR 165, vI v1, vI (v2 + 1)]) (st' := []) (dg dc214 47 rfl) rfl rfl ?_
          refine ex_goto (t := 28) (dg dc214 48 rfl) rfl rfl ?_
          exact ih (v2 + 1) M_18 hf
        · exact k3  M_16 _ _ _ hf
      · exact k2 v2 M_13 _ _ hf
    · exact k1  M_10 _ _ _ hf
def mo_readAll (v1 : Int) (M : MM) : OR :=
  (bV (mo_uses  M) fun M_2 => (sM (mU M_2 165 15 0) fun M_4 => (bV (mo_blanks  M_4) fun M_7 => (bif cmpB .ne (M_7 165 9) (M_7 165 10) then (mo_readAll_L28 v1 (fun M_20 => some (rI (-1), M_20)) (fun v2_24 M_25 => some (rI (v2_24 + 1), M_25)) (fun M_28 => some (rI (-1), M_28)) FU 0 M_7) else some (rI 0, M_7)))))
set_option maxRecDepth 4000 in
theorem mo_readAll_ok {Z : Nat × (Nat → Int)} {d : Nat} (hd : 50 ≤ d) {M : MM}  {v1 : Int} {res : AR × MM} (hf : mo_readAll v1 M = some res) : EX Z d 214 0 (ent 214 [vR 165, vI v1]) [] M res := by
  obtain ⟨e9, rfl⟩ : ∃ e9, d = e9 + 1 := ⟨d - 1, by omega⟩
  unfold mo_readAll at hf
  show EX Z _ 214 0 [vR 165, vI v1, vU] [] M res
  refine ex_pu (ls' := [vR 165, vI v1, vU]) (st' := [vR 165]) (dg dc214 0 rfl) rfl rfl ?_
  refine ex_cV (vs := [vR 165]) (st' := []) (F := (mo_uses  M)) (Or.inr (Or.inl ⟨rfl, (dg dc214 1 rfl)⟩)) rfl rfl (rk1 (LOC.st (Nat.le_of_ble_eq_true rfl) rfl) rfl) rfl (fun _ r9 => mo_uses_ok (Z := Z) (d := e9) (by omega)  r9) hf (fun M_2 he_1 hf => ?_)
  refine ex_pu (ls' := [vR 165, vI v1, vU]) (st' := [vR 165]) (dg dc214 2 rfl) rfl rfl ?_
  refine ex_pu (ls' := [vR 165, vI v1, vU]) (st' := [vI 0, vR 165]) (dg dc214 3 rfl) rfl rfl ?_
  refine ex_putI (dg dc214 4 rfl) rfl (LOC.st (Nat.le_of_ble_eq_true rfl) rfl) rfl rfl rfl ?_
  refine ex_gen hf (fun M_4 hM_5 hf => ?_)
  refine ex_pu (ls' := [vR 165, vI v1, vU]) (st' := [vR 165]) (dg dc214 5 rfl) rfl rfl ?_
  refine ex_cV (vs := [vR 165]) (st' := []) (F := (mo_blanks  M_4)) (Or.inr (Or.inl ⟨rfl, (dg dc214 6 rfl)⟩)) rfl rfl (rk1 (LOC.st (Nat.le_of_ble_eq_true rfl) rfl) rfl) rfl (fun _ r9 => mo_blanks_ok (Z := Z) (d := e9) (by omega)  r9) hf (fun M_7 he_6 hf => ?_)
  refine ex_pu (ls' := [vR 165, vI v1, vU]) (st' := [vR 165]) (dg dc214 7 rfl) rfl rfl ?_
  refine ex_getI (dg dc214 8 rfl) rfl (LOC.st (Nat.le_of_ble_eq_true rfl) rfl) rfl ?_
  refine ex_pu (ls' := [vR 165, vI v1, vU]) (st' := [vR 165, vI (M_7 165 9)]) (dg dc214 9 rfl) rfl rfl ?_
  refine ex_getI (dg dc214 10 rfl) rfl (LOC.st (Nat.le_of_ble_eq_true rfl) rfl) rfl ?_
  refine ex_icmp (t := 26) (dg dc214 11 rfl) rfl hf (fun _ hf => ?_) (fun _ hf => ?_)
  · refine ex_pu (ls' := [vR 165, vI v1, vU]) (st' := [vI 0]) (dg dc214 14 rfl) rfl rfl ?_
    refine ex_pu (ls' := [vR 165, vI v1, vI 0]) (st' := []) (dg dc214 15 rfl) rfl rfl ?_
    refine mo_readAll_L28_ok hd  ?_ ?_ ?_ FU 0 M_7 hf
    · intro M_20 j0_21 j1_22 j2_23 hf
      refine ex_pu (ls' := [j0_21, j1_22, j2_23]) (st' := [vI (-1)]) (dg dc214 21 rfl) rfl rfl ?_
      exact ex_ire (dg dc214 22 rfl) rfl hf
    · intro v2_24 M_25 j0_26 j1_27 hf
      refine ex_pu (ls' := [j0_26, j1_27, vI v2_24]) (st' := [vI v2_24]) (dg dc214 30 rfl) rfl rfl ?_
      refine ex_pu (ls' := [j0_26, j1_27, vI v2_24]) (st' := [vI 1, vI v2_24]) (dg dc214 31 rfl) rfl rfl ?_
      refine ex_pu (ls' := [j0_26, j1_27, vI v2_24]) (st' := [vI (v2_24 + 1)]) (dg dc214 32 rfl) rfl rfl ?_
      exact ex_ire (dg dc214 33 rfl) rfl hf
    · intro M_28 j0_29 j1_30 j2_31 hf
      refine ex_pu (ls' := [j0_29, j1_30, j2_31]) (st' := [vI (-1)]) (dg dc214 39 rfl) rfl rfl ?_
      exact ex_ire (dg dc214 40 rfl) rfl hf
  · refine ex_pu (ls' := [vR 165, vI v1, vU]) (st' := [vI 0]) (dg dc214 12 rfl) rfl rfl ?_
    exact ex_ire (dg dc214 13 rfl) rfl hf
-- GlassHillModel.tale
def il215 : List (Nat × Instr × Nat) := [(0, .iconst 0, 1), (1, .istore_n 1, 1), (2, .iload_n 1, 1), (3, .sipush 1115, 3), (6, .if_icmp .ge 21, 3), (9, .aload_n 0, 1), (10, .getfield 20, 3), (13, .iload_n 1, 1), (14, .aload_n 0, 1), (15, .getfield 13, 3), (18, .iload_n 1, 1), (19, .iaload, 1), (20, .iastore, 1), (21, .iinc 1 1, 3), (24, .goto (-22), 3), (27, .aload_n 0, 1), (28, .iconst 1, 1), (29, .invokevirtual 270, 3), (32, .istore_n 1, 1), (33, .aload_n 0, 1), (34, .iload_n 1, 1), (35, .ifCond .ge 10, 3), (38, .aload_n 0, 1), (39, .getfield 106, 3), (42, .goto 4, 3), (45, .iconst (-1), 1), (46, .putfield 30, 3), (49, .aload_n 0, 1), (50, .iload_n 1, 1), (51, .ifCond .ge 7, 3), (54, .iconst 1, 1), (55, .goto 4, 3), (58, .iconst 0, 1), (59, .iconst 1, 1), (60, .invokevirtual 274, 3), (63, .ifCond .ne 27, 3), (66, .aload_n 0, 1), (67, .aload_n 0, 1), (68, .getfield 13, 3), (71, .iconst 4, 1), (72, .iaload, 1), (73, .bipush 12, 2), (75, .if_icmp .ne 7, 3), (78, .iconst 1, 1), (79, .goto 4, 3), (82, .iconst 0, 1), (83, .iconst 2, 1), (84, .invokevirtual 274, 3), (87, .ifCond .eq 32, 3), (90, .iconst 0, 1), (91, .istore_n 2, 1), (92, .iload_n 2, 1), (93, .sipush 1115, 3), (96, .if_icmp .ge 21, 3), (99, .aload_n 0, 1), (100, .getfield 13, 3), (103, .iload_n 2, 1), (104, .aload_n 0, 1), (105, .getfield 20, 3), (108, .iload_n 2, 1), (109, .iaload, 1), (110, .iastore, 1), (111, .iinc 2 1, 3), (114, .goto (-22), 3), (117, .iconst 0, 1), (118, .ireturn, 1), (119, .aload_n 0, 1), (120, .getfield 13, 3), (123, .iconst 4, 1), (124, .dup2, 1), (125, .iaload, 1), (126, .iconst 1, 1), (127, .iadd, 1), (128, .iastore, 1), (129, .aload_n 0, 1), (130, .iconst 0, 1), (131, .putfield 69, 3), (134, .aload_n 0, 1), (135, .getfield 13, 3), (138, .iconst 4, 1), (139, .iaload, 1), (140, .ireturn, 1)]
theorem dc215 : dcs (mC 215) il215 := dc_of (by decide +kernel)
def mo_tale_L2  (K1 : MM → OR) : Nat → Int → MM → OR
  | 0, _, _ => none
  | n + 1, v1, M => (bif cmpB .ge v1 1115 then (K1  M) else (bif inB v1 1964 then (bif inB v1 1115 then (sM (mU M 168 (v1).toNat (M 166 (v1).toNat)) fun M_1 => (mo_tale_L2  K1 n (v1 + 1) M_1)) else none) else none))
set_option maxRecDepth 4000 in
theorem mo_tale_L2_ok {Z : Nat × (Nat → Int)} {d : Nat} (hd : 51 ≤ d)  {K1 : MM → OR} {res : AR × MM} (k1 : ∀ (M : MM) (j1 j2 : AV), K1  M = some res → EX Z d 215 27 [vR 165, j1, j2] [] M res) : ∀ (n : Nat) (v1 : Int) (M : MM) (j2 : AV), mo_tale_L2  K1 n v1 M = some res → EX Z d 215 2 [vR 165, vI v1, j2] [] M res := by
  obtain ⟨e9, rfl⟩ : ∃ e9, d = e9 + 1 := ⟨d - 1, by omega⟩
  intro n
  induction n with
  | zero =>
    intro v1 M j2 hf
    unfold mo_tale_L2 at hf
    cases hf
  | succ n ih =>
    intro v1 M j2 hf
    unfold mo_tale_L2 at hf
    refine ex_pu (ls' := [vR 165, vI v1, j2]) (st' := [vI v1]) (dg dc215 2 rfl) rfl rfl ?_
    refine ex_pu (ls' := [vR 165, vI v1, j2]) (st' := [vI 1115, vI v1]) (dg dc215 3 rfl) rfl rfl ?_
    refine ex_icmp (t := 27) (dg dc215 4 rfl) rfl hf (fun _ hf => ?_) (fun _ hf => ?_)
    · exact k1  M _ _ hf
    · refine ex_pu (ls' := [vR 165, vI v1, j2]) (st' := [vR 165]) (dg dc215 5 rfl) rfl rfl ?_
      refine ex_getO (dg dc215 6 rfl) rfl (LOC.st (Nat.le_of_ble_eq_true rfl) rfl) rfl ?_
      show EX Z _ 215 _ [vR 165, vI v1, j2] [vR 168] _ _
      refine ex_pu (ls' := [vR 165, vI v1, j2]) (st' := [vI v1, vR 168]) (dg dc215 7 rfl) rfl rfl ?_
      refine ex_pu (ls' := [vR 165, vI v1, j2]) (st' := [vR 165, vI v1, vR 168]) (dg dc215 8 rfl) rfl rfl ?_
      refine ex_getO (dg dc215 9 rfl) rfl (LOC.st (Nat.le_of_ble_eq_true rfl) rfl) rfl ?_
      show EX Z _ 215 _ [vR 165, vI v1, j2] [vR 166, vI v1, vR 168] _ _
      refine ex_pu (ls' := [vR 165, vI v1, j2]) (st' := [vI v1, vR 166, vI v1, vR 168]) (dg dc215 10 rfl) rfl rfl ?_
      refine ex_iald (dg dc215 11 rfl) (LOC.st (Nat.le_of_ble_eq_true rfl) rfl) rfl hf (fun _ hf => ?_)
      refine ex_iast (dg dc215 12 rfl) (LOC.st (Nat.le_of_ble_eq_true rfl) rfl) rfl rfl hf (fun _ hf => ?_)
      refine ex_gen hf (fun M_1 hM_2 hf => ?_)
      refine ex_pu (ls' := [vR 165, vI (v1 + 1), j2]) (st' := []) (dg dc215 13 rfl) rfl rfl ?_
      refine ex_goto (t := 2) (dg dc215 14 rfl) rfl rfl ?_
      exact ih (v1 + 1) M_1 _ hf
def mo_tale_L92  (K1 : MM → OR) : Nat → Int → MM → OR
  | 0, _, _ => none
  | n + 1, v2, M => (bif cmpB .ge v2 1115 then (K1  M) else (bif inB v2 1115 then (bif inB v2 1964 then (sM (mU M 166 (v2).toNat (M 168 (v2).toNat)) fun M_15 => (mo_tale_L92  K1 n (v2 + 1) M_15)) else none) else none))
set_option maxRecDepth 4000 in
theorem mo_tale_L92_ok {Z : Nat × (Nat → Int)} {d : Nat} (hd : 51 ≤ d)  {K1 : MM → OR} {res : AR × MM} (k1 : ∀ (M : MM) (j0 j1 j2 : AV), K1  M = some res → EX Z d 215 117 [j0, j1, j2] [] M res) : ∀ (n : Nat) (v2 : Int) (M : MM) (j1 : AV), mo_tale_L92  K1 n v2 M = some res → EX Z d 215 92 [vR 165, j1, vI v2] [] M res := by
  obtain ⟨e9, rfl⟩ : ∃ e9, d = e9 + 1 := ⟨d - 1, by omega⟩
  intro n
  induction n with
  | zero =>
    intro v2 M j1 hf
    unfold mo_tale_L92 at hf
    cases hf
  | succ n ih =>
    intro v2 M j1 hf
    unfold mo_tale_L92 at hf
    refine ex_pu (ls' := [vR 165, j1, vI v2]) (st' := [vI v2]) (dg dc215 51 rfl) rfl rfl ?_
    refine ex_pu (ls' := [vR 165, j1, vI v2]) (st' := [vI 1115, vI v2]) (dg dc215 52 rfl) rfl rfl ?_
    refine ex_icmp (t := 117) (dg dc215 53 rfl) rfl hf (fun _ hf => ?_) (fun _ hf => ?_)
    · exact k1  M _ _ _ hf
    · refine ex_pu (ls' := [vR 165, j1, vI v2]) (st' := [vR 165]) (dg dc215 54 rfl) rfl rfl ?_
      refine ex_getO (dg dc215 55 rfl) rfl (LOC.st (Nat.le_of_ble_eq_true rfl) rfl) rfl ?_
      show EX Z _ 215 _ [vR 165, j1, vI v2] [vR 166] _ _
      refine ex_pu (ls' := [vR 165, j1, vI v2]) (st' := [vI v2, vR 166]) (dg dc215 56 rfl) rfl rfl ?_
      refine ex_pu (ls' := [vR 165, j1, vI v2]) (st' := [vR 165, vI v2, vR 166]) (dg dc215 57 rfl) rfl rfl ?_
      refine ex_getO (dg dc215 58 rfl) rfl (LOC.st (Nat.le_of_ble_eq_true rfl) rfl) rfl ?_
      show EX Z _ 215 _ [vR 165, j1, vI v2] [vR 168, vI v2, vR 166] _ _
      refine ex_pu (ls' := [vR 165, j1, vI v2]) (st' := [vI v2, vR 168, vI v2, vR 166]) (dg dc215 59 rfl) rfl rfl ?_
      refine ex_iald (dg dc215 60 rfl) (LOC.st (Nat.le_of_ble_eq_true rfl) rfl) rfl hf (fun _ hf => ?_)
      refine ex_iast (dg dc215 61 rfl) (LOC.st (Nat.le_of_ble_eq_true rfl) rfl) rfl rfl hf (fun _ hf => ?_)
      refine ex_gen hf (fun M_15 hM_16 hf => ?_)
      refine ex_incD (dg dc215 62 rfl) rfl rfl (fun w_17 => ?_)
      show EX Z _ 215 _ [vR 165, w_17, vI (v2 + 1)] [] _ _
      refine ex_goto (t := 92) (dg dc215 63 rfl) rfl rfl ?_
      exact ih (v2 + 1) M_15 _ hf
def mo_tale_J90   (M : MM) : OR :=
  (mo_tale_L92  (fun M_18 => some (rI 0, M_18)) FU 0 M)
set_option maxRecDepth 4000 in
theorem mo_tale_J90_ok {Z : Nat × (Nat → Int)} {d : Nat} (hd : 51 ≤ d)   {res : AR × MM}  : ∀ (M : MM) (j1 j2 : AV), mo_tale_J90    M = some res → EX Z d 215 90 [vR 165, j1, j2] [] M res := by
  obtain ⟨e9, rfl⟩ : ∃ e9, d = e9 + 1 := ⟨d - 1, by omega⟩
  intro M j1 j2 hf
  unfold mo_tale_J90 at hf
  refine ex_pu (ls' := [vR 165, j1, j2]) (st' := [vI 0]) (dg dc215 49 rfl) rfl rfl ?_
  refine ex_istDn (dg dc215 50 rfl) rfl rfl (fun w_14 => ?_)
  show EX Z _ 215 _ [vR 165, w_14, vI 0] [] _ _
  refine mo_tale_L92_ok hd  ?_ FU 0 M _ hf
  · intro M_18 j0_19 j1_20 j2_21 hf
    refine ex_pu (ls' := [j0_19, j1_20, j2_21]) (st' := [vI 0]) (dg dc215 64 rfl) rfl rfl ?_
    exact ex_ire (dg dc215 65 rfl) rfl hf
def mo_tale_J83   (s0 : Int) (M : MM) : OR :=
  (bI (mo_throwsIf s0 2 M) fun z_24 M_23 => (bif cmpB .eq z_24 0 then (bif inB 4 1964 then (bif inB 4 1964 then (sM (mU M_23 166 4 ((M_23 166 4) + 1)) fun M_25 => (sM (mU M_25 165 6 0) fun M_27 => (bif inB 4 1964 then some (rI (M_27 166 4), M_27) else none))) else none) else none) else (mo_tale_J90    M_23)))
set_option maxRecDepth 4000 in
theorem mo_tale_J83_ok {Z : Nat × (Nat → Int)} {d : Nat} (hd : 51 ≤ d)   {res : AR × MM}  : ∀ (s0 : Int) (M : MM) (j1 j2 : AV), mo_tale_J83   s0 M = some res → EX Z d 215 83 [vR 165, j1, j2] [vI s0, vR 165] M res := by
  obtain ⟨e9, rfl⟩ : ∃ e9, d = e9 + 1 := ⟨d - 1, by omega⟩
  intro s0 M j1 j2 hf
  unfold mo_tale_J83 at hf
  refine ex_pu (ls' := [vR 165, j1, j2]) (st' := [vI 2, vI s0, vR 165]) (dg dc215 46 rfl) rfl rfl ?_
  refine ex_cI (vs := [vR 165, vI s0, vI 2]) (st' := []) (F := (mo_throwsIf s0 2 M)) (Or.inr (Or.inl ⟨rfl, (dg dc215 47 rfl)⟩)) rfl rfl (rk1 (LOC.st (Nat.le_of_ble_eq_true rfl) rfl) rfl) rfl (fun _ r9 => mo_throwsIf_ok (Z := Z) (d := e9) (by omega)  r9) hf (fun z_24 M_23 he_22 hf => ?_)
  refine ex_if (t := 119) (dg dc215 48 rfl) rfl hf (fun _ hf => ?_) (fun _ hf => ?_)
  · refine ex_pu (ls' := [vR 165, j1, j2]) (st' := [vR 165]) (dg dc215 66 rfl) rfl rfl ?_
    refine ex_getO (dg dc215 67 rfl) rfl (LOC.st (Nat.le_of_ble_eq_true rfl) rfl) rfl ?_
    show EX Z _ 215 _ [vR 165, j1, j2] [vR 166] _ _
    refine ex_pu (ls' := [vR 165, j1, j2]) (st' := [vI 4, vR 166]) (dg dc215 68 rfl) rfl rfl ?_
    refine ex_pu (ls' := [vR 165, j1, j2]) (st' := [vI 4, vR 166, vI 4, vR 166]) (dg dc215 69 rfl) rfl rfl ?_
    refine ex_iald (dg dc215 70 rfl) (LOC.st (Nat.le_of_ble_eq_true rfl) rfl) rfl hf (fun _ hf => ?_)
    refine ex_pu (ls' := [vR 165, j1, j2]) (st' := [vI 1, vI (M_23 166 4), vI 4, vR 166]) (dg dc215 71 rfl) rfl rfl ?_
    refine ex_pu (ls' := [vR 165, j1, j2]) (st' := [vI ((M_23 166 4) + 1), vI 4, vR 166]) (dg dc215 72 rfl) rfl rfl ?_
    refine ex_iast (dg dc215 73 rfl) (LOC.st (Nat.le_of_ble_eq_true rfl) rfl) rfl rfl hf (fun _ hf => ?_)
    refine ex_gen hf (fun M_25 hM_26 hf => ?_)
    refine ex_pu (ls' := [vR 165, j1, j2]) (st' := [vR 165]) (dg dc215 74 rfl) rfl rfl ?_
    refine ex_pu (ls' := [vR 165, j1, j2]) (st' := [vI 0, vR 165]) (dg dc215 75 rfl) rfl rfl ?_
    refine ex_putI (dg dc215 76 rfl) rfl (LOC.st (Nat.le_of_ble_eq_true rfl) rfl) rfl rfl rfl ?_
    refine ex_gen hf (fun M_27 hM_28 hf => ?_)
    refine ex_pu (ls' := [vR 165, j1, j2]) (st' := [vR 165]) (dg dc215 77 rfl) rfl rfl ?_
    refine ex_getO (dg dc215 78 rfl) rfl (LOC.st (Nat.le_of_ble_eq_true rfl) rfl) rfl ?_
    show EX Z _ 215 _ [vR 165, j1, j2] [vR 166] _ _
    refine ex_pu (ls' := [vR 165, j1, j2]) (st' := [vI 4, vR 166]) (dg dc215 79 rfl) rfl rfl ?_
    refine ex_iald (dg dc215 80 rfl) (LOC.st (Nat.le_of_ble_eq_true rfl) rfl) rfl hf (fun _ hf => ?_)
    exact ex_ire (dg dc215 81 rfl) rfl hf
  · exact mo_tale_J90_ok hd    M_23 _ _ hf
def mo_tale_J59   (s0 : Int) (M : MM) : OR :=
  (bI (mo_throwsIf s0 1 M) fun z_13 M_12 => (bif cmpB .ne z_13 0 then (mo_tale_J90    M_12) else (bif inB 4 1964 then (bif cmpB .ne (M_12 166 4) 12 then (mo_tale_J83   0 M_12) else (mo_tale_J83   1 M_12)) else none)))
set_option maxRecDepth 4000 in
theorem mo_tale_J59_ok {Z : Nat × (Nat → Int)} {d : Nat} (hd : 51 ≤ d)   {res : AR × MM}  : ∀ (s0 : Int) (M : MM) (j1 j2 : AV), mo_tale_J59   s0 M = some res → EX Z d 215 59 [vR 165, j1, j2] [vI s0, vR 165] M res := by
  obtain ⟨e9, rfl⟩ : ∃ e9, d = e9 + 1 := ⟨d - 1, by omega⟩
  intro s0 M j1 j2 hf
  unfold mo_tale_J59 at hf
  refine ex_pu (ls' := [vR 165, j1, j2]) (st' := [vI 1, vI s0, vR 165]) (dg dc215 33 rfl) rfl rfl ?_
  refine ex_cI (vs := [vR 165, vI s0, vI 1]) (st' := []) (F := (mo_throwsIf s0 1 M)) (Or.inr (Or.inl ⟨rfl, (dg dc215 34 rfl)⟩)) rfl rfl (rk1 (LOC.st (Nat.le_of_ble_eq_true rfl) rfl) rfl) rfl (fun _ r9 => mo_throwsIf_ok (Z := Z) (d := e9) (by omega)  r9) hf (fun z_13 M_12 he_11 hf => ?_)
  refine ex_if (t := 90) (dg dc215 35 rfl) rfl hf (fun _ hf => ?_) (fun _ hf => ?_)
  · exact mo_tale_J90_ok hd    M_12 _ _ hf
  · refine ex_pu (ls' := [vR 165, j1, j2]) (st' := [vR 165]) (dg dc215 36 rfl) rfl rfl ?_
    refine ex_pu (ls' := [vR 165, j1, j2]) (st' := [vR 165, vR 165]) (dg dc215 37 rfl) rfl rfl ?_
    refine ex_getO (dg dc215 38 rfl) rfl (LOC.st (Nat.le_of_ble_eq_true rfl) rfl) rfl ?_
    show EX Z _ 215 _ [vR 165, j1, j2] [vR 166, vR 165] _ _
    refine ex_pu (ls' := [vR 165, j1, j2]) (st' := [vI 4, vR 166, vR 165]) (dg dc215 39 rfl) rfl rfl ?_
    refine ex_iald (dg dc215 40 rfl) (LOC.st (Nat.le_of_ble_eq_true rfl) rfl) rfl hf (fun _ hf => ?_)
    refine ex_pu (ls' := [vR 165, j1, j2]) (st' := [vI 12, vI (M_12 166 4), vR 165]) (dg dc215 41 rfl) rfl rfl ?_
    refine ex_icmp (t := 82) (dg dc215 42 rfl) rfl hf (fun _ hf => ?_) (fun _ hf => ?_)
    · refine ex_pu (ls' := [vR 165, j1, j2]) (st' := [vI 0, vR 165]) (dg dc215 45 rfl) rfl rfl ?_
      exact mo_tale_J83_ok hd   0 M_12 _ _ hf
    · refine ex_pu (ls' := [vR 165, j1, j2]) (st' := [vI 1, vR 165]) (dg dc215 43 rfl) rfl rfl ?_
      refine ex_goto (t := 83) (dg dc215 44 rfl) rfl rfl ?_
      exact mo_tale_J83_ok hd   1 M_12 _ _ hf
def mo_tale_J46   (v1 s0 : Int) (M : MM) : OR :=
  (sM (mU M 165 13 s0) fun M_9 => (bif cmpB .ge v1 0 then (mo_tale_J59   0 M_9) else (mo_tale_J59   1 M_9)))
set_option maxRecDepth 4000 in
theorem mo_tale_J46_ok {Z : Nat × (Nat → Int)} {d : Nat} (hd : 51 ≤ d)   {res : AR × MM}  : ∀ (v1 s0 : Int) (M : MM) (j2 : AV), mo_tale_J46   v1 s0 M = some res → EX Z d 215 46 [vR 165, vI v1, j2] [vI s0, vR 165] M res := by
  obtain ⟨e9, rfl⟩ : ∃ e9, d = e9 + 1 := ⟨d - 1, by omega⟩
  intro v1 s0 M j2 hf
  unfold mo_tale_J46 at hf
  refine ex_putI (dg dc215 26 rfl) rfl (LOC.st (Nat.le_of_ble_eq_true rfl) rfl) rfl rfl rfl ?_
  refine ex_gen hf (fun M_9 hM_10 hf => ?_)
  refine ex_pu (ls' := [vR 165, vI v1, j2]) (st' := [vR 165]) (dg dc215 27 rfl) rfl rfl ?_
  refine ex_pu (ls' := [vR 165, vI v1, j2]) (st' := [vI v1, vR 165]) (dg dc215 28 rfl) rfl rfl ?_
  refine ex_if (t := 58) (dg dc215 29 rfl) rfl hf (fun _ hf => ?_) (fun _ hf => ?_)
  · refine ex_pu (ls' := [vR 165, vI v1, j2]) (st' := [vI 0, vR 165]) (dg dc215 32 rfl) rfl rfl ?_
    exact mo_tale_J59_ok hd   0 M_9 _ _ hf
  · refine ex_pu (ls' := [vR 165, vI v1, j2]) (st' := [vI 1, vR 165]) (dg dc215 30 rfl) rfl rfl ?_
    refine ex_goto (t := 59) (dg dc215 31 rfl) rfl rfl ?_
    exact mo_tale_J59_ok hd   1 M_9 _ _ hf
def mo_tale  (M : MM) : OR :=
  (mo_tale_L2  (fun M_3 => (bI (mo_readAll 1 M_3) fun z_8 M_7 => (bif cmpB .ge z_8 0 then (mo_tale_J46   z_8 (-1) M_7) else (mo_tale_J46   z_8 (M_7 165 11) M_7)))) FU 0 M)
set_option maxRecDepth 4000 in
theorem mo_tale_ok {Z : Nat × (Nat → Int)} {d : Nat} (hd : 51 ≤ d) {M : MM}  {res : AR × MM} (hf : mo_tale  M = some res) : EX Z d 215 0 (ent 215 [vR 165]) [] M res := by
  obtain ⟨e9, rfl⟩ : ∃ e9, d = e9 + 1 := ⟨d - 1, by omega⟩
  unfold mo_tale at hf
  show EX Z _ 215 0 [vR 165, vU, vU] [] M res
  refine ex_pu (ls' := [vR 165, vU, vU]) (st' := [vI 0]) (dg dc215 0 rfl) rfl rfl ?_
  refine ex_pu (ls' := [vR 165, vI 0, vU]) (st' := []) (dg dc215 1 rfl) rfl rfl ?_
  refine mo_tale_L2_ok hd  ?_ FU 0 M _ hf
  · intro M_3 j1_4 j2_5 hf
    refine ex_pu (ls' := [vR 165, j1_4, j2_5]) (st' := [vR 165]) (dg dc215 15 rfl) rfl rfl ?_
    refine ex_pu (ls' := [vR 165, j1_4, j2_5]) (st' := [vI 1, vR 165]) (dg dc215 16 rfl) rfl rfl ?_
    refine ex_cI (vs := [vR 165, vI 1]) (st' := []) (F := (mo_readAll 1 M_3)) (Or.inr (Or.inl ⟨rfl, (dg dc215 17 rfl)⟩)) rfl rfl (rk1 (LOC.st (Nat.le_of_ble_eq_true rfl) rfl) rfl) rfl (fun _ r9 => mo_readAll_ok (Z := Z) (d := e9) (by omega)  r9) hf (fun z_8 M_7 he_6 hf => ?_)
    refine ex_pu (ls' := [vR 165, vI z_8, j2_5]) (st' := []) (dg dc215 18 rfl) rfl rfl ?_
    refine ex_pu (ls' := [vR 165, vI z_8, j2_5]) (st' := [vR 165]) (dg dc215 19 rfl) rfl rfl ?_
    refine ex_pu (ls' := [vR 165, vI z_8, j2_5]) (st' := [vI z_8, vR 165]) (dg dc215 20 rfl) rfl rfl ?_
    refine ex_if (t := 45) (dg dc215 21 rfl) rfl hf (fun _ hf => ?_) (fun _ hf => ?_)
    · refine ex_pu (ls' := [vR 165, vI z_8, j2_5]) (st' := [vI (-1), vR 165]) (dg dc215 25 rfl) rfl rfl ?_
      exact mo_tale_J46_ok hd   z_8 (-1) M_7 _ hf
    · refine ex_pu (ls' := [vR 165, vI z_8, j2_5]) (st' := [vR 165, vR 165]) (dg dc215 22 rfl) rfl rfl ?_
      refine ex_getI (dg dc215 23 rfl) rfl (LOC.st (Nat.le_of_ble_eq_true rfl) rfl) rfl ?_
      refine ex_goto (t := 46) (dg dc215 24 rfl) rfl rfl ?_
      exact mo_tale_J46_ok hd   z_8 (M_7 165 11) M_7 _ hf
-- GlassHillModel.law
def il216 : List (Nat × Instr × Nat) := [(0, .aload_n 0, 1), (1, .iconst 0, 1), (2, .invokevirtual 270, 3), (5, .istore_n 1, 1), (6, .aload_n 0, 1), (7, .iload_n 1, 1), (8, .ifCond .ge 10, 3), (11, .aload_n 0, 1), (12, .getfield 106, 3), (15, .goto 4, 3), (18, .iconst (-1), 1), (19, .putfield 30, 3), (22, .aload_n 0, 1), (23, .iload_n 1, 1), (24, .ifCond .ge 7, 3), (27, .iconst 1, 1), (28, .goto 4, 3), (31, .iconst 0, 1), (32, .iconst 1, 1), (33, .invokevirtual 274, 3), (36, .ifCond .eq 5, 3), (39, .iconst 0, 1), (40, .ireturn, 1), (41, .aload_n 0, 1), (42, .getfield 13, 3), (45, .sipush 1115, 3), (48, .iload_n 1, 1), (49, .iastore, 1), (50, .iconst 0, 1), (51, .istore_n 2, 1), (52, .iload_n 2, 1), (53, .sipush 849, 3), (56, .if_icmp .ge 29, 3), (59, .aload_n 0, 1), (60, .getfield 13, 3), (63, .sipush 266, 3), (66, .iload_n 2, 1), (67, .iadd, 1), (68, .aload_n 0, 1), (69, .getfield 13, 3), (72, .sipush 1115, 3), (75, .iload_n 2, 1), (76, .iadd, 1), (77, .iaload, 1), (78, .iastore, 1), (79, .iinc 2 1, 3), (82, .goto (-30), 3), (85, .aload_n 0, 1), (86, .getfield 13, 3), (89, .iconst 5, 1), (90, .iconst 1, 1), (91, .iastore, 1), (92, .aload_n 0, 1), (93, .iconst 0, 1), (94, .putfield 69, 3), (97, .iload_n 1, 1), (98, .ireturn, 1)]
theorem dc216 : dcs (mC 216) il216 := dc_of (by decide +kernel)
def mo_law_L52  (v1 : Int) (K1 : MM → OR) : Nat → Int → MM → OR
  | 0, _, _ => none
  | n + 1, v2, M => (bif cmpB .ge v2 849 then (K1  M) else (bif inB (1115 + v2) 1964 then (bif inB (266 + v2) 1964 then (sM (mU M 166 ((266 + v2)).toNat (M 166 ((1115 + v2)).toNat)) fun M_11 => (mo_law_L52 v1 K1 n (v2 + 1) M_11)) else none) else none))
set_option maxRecDepth 4000 in
theorem mo_law_L52_ok {Z : Nat × (Nat → Int)} {d : Nat} (hd : 51 ≤ d)  {v1 : Int} {K1 : MM → OR} {res : AR × MM} (k1 : ∀ (M : MM) (j2 : AV), K1  M = some res → EX Z d 216 85 [vR 165, vI v1, j2] [] M res) : ∀ (n : Nat) (v2 : Int) (M : MM), mo_law_L52 v1 K1 n v2 M = some res → EX Z d 216 52 [vR 165, vI v1, vI v2] [] M res := by
  obtain ⟨e9, rfl⟩ : ∃ e9, d = e9 + 1 := ⟨d - 1, by omega⟩
  intro n
  induction n with
  | zero =>
    intro v2 M hf
    unfold mo_law_L52 at hf
    cases hf
  | succ n ih =>
    intro v2 M hf
    unfold mo_law_L52 at hf
    refine ex_pu (ls' := [vR 165, vI v1, vI v2]) (st' := [vI v2]) (dg dc216 30 rfl) rfl rfl ?_
    refine ex_pu (ls' := [vR 165, vI v1, vI v2]) (st' := [vI 849, vI v2]) (dg dc216 31 rfl) rfl rfl ?_
    refine ex_icmp (t := 85) (dg dc216 32 rfl) rfl hf (fun _ hf => ?_) (fun _ hf => ?_)
    · exact k1  M _ hf
    · refine ex_pu (ls' := [vR 165, vI v1, vI v2]) (st' := [vR 165]) (dg dc216 33 rfl) rfl rfl ?_
      refine ex_getO (dg dc216 34 rfl) rfl (LOC.st (Nat.le_of_ble_eq_true rfl) rfl) rfl ?_
      show EX Z _ 216 _ [vR 165, vI v1, vI v2] [vR 166] _ _
      refine ex_pu (ls' := [vR 165, vI v1, vI v2]) (st' := [vI 266, vR 166]) (dg dc216 35 rfl) rfl rfl ?_
      refine ex_pu (ls' := [vR 165, vI v1, vI v2]) (st' := [vI v2, vI 266, vR 166]) (dg dc216 36 rfl) rfl rfl ?_
      refine ex_pu (ls' := [vR 165, vI v1, vI v2]) (st' := [vI (266 + v2), vR 166]) (dg dc216 37 rfl) rfl rfl ?_
      refine ex_pu (ls' := [vR 165, vI v1, vI v2]) (st' := [vR 165, vI (266 + v2), vR 166]) (dg dc216 38 rfl) rfl rfl ?_
      refine ex_getO (dg dc216 39 rfl) rfl (LOC.st (Nat.le_of_ble_eq_true rfl) rfl) rfl ?_
      show EX Z _ 216 _ [vR 165, vI v1, vI v2] [vR 166, vI (266 + v2), vR 166] _ _
      refine ex_pu (ls' := [vR 165, vI v1, vI v2]) (st' := [vI 1115, vR 166, vI (266 + v2), vR 166]) (dg dc216 40 rfl) rfl rfl ?_
      refine ex_pu (ls' := [vR 165, vI v1, vI v2]) (st' := [vI v2, vI 1115, vR 166, vI (266 + v2), vR 166]) (dg dc216 41 rfl) rfl rfl ?_
      refine ex_pu (ls' := [vR 165, vI v1, vI v2]) (st' := [vI (1115 + v2), vR 166, vI (266 + v2), vR 166]) (dg dc216 42 rfl) rfl rfl ?_
      refine ex_iald (dg dc216 43 rfl) (LOC.st (Nat.le_of_ble_eq_true rfl) rfl) rfl hf (fun _ hf => ?_)
      refine ex_iast (dg dc216 44 rfl) (LOC.st (Nat.le_of_ble_eq_true rfl) rfl) rfl rfl hf (fun _ hf => ?_)
      refine ex_gen hf (fun M_11 hM_12 hf => ?_)
      refine ex_pu (ls' := [vR 165, vI v1, vI (v2 + 1)]) (st' := []) (dg dc216 45 rfl) rfl rfl ?_
      refine ex_goto (t := 52) (dg dc216 46 rfl) rfl rfl ?_
      exact ih (v2 + 1) M_11 hf
def mo_law_J32   (v1 s0 : Int) (M : MM) : OR :=
  (bI (mo_throwsIf s0 1 M) fun z_8 M_7 => (bif cmpB .eq z_8 0 then (bif inB 1115 1964 then (sM (mU M_7 166 1115 v1) fun M_9 => (mo_law_L52 v1 (fun M_13 => (bif inB 5 1964 then (sM (mU M_13 166 5 1) fun M_15 => (sM (mU M_15 165 6 0) fun M_17 => some (rI v1, M_17))) else none)) FU 0 M_9)) else none) else some (rI 0, M_7)))
set_option maxRecDepth 4000 in
theorem mo_law_J32_ok {Z : Nat × (Nat → Int)} {d : Nat} (hd : 51 ≤ d)   {res : AR × MM}  : ∀ (v1 s0 : Int) (M : MM) (j2 : AV), mo_law_J32   v1 s0 M = some res → EX Z d 216 32 [vR 165, vI v1, j2] [vI s0, vR 165] M res := by
  obtain ⟨e9, rfl⟩ : ∃ e9, d = e9 + 1 := ⟨d - 1, by omega⟩
  intro v1 s0 M j2 hf
  unfold mo_law_J32 at hf
  refine ex_pu (ls' := [vR 165, vI v1, j2]) (st' := [vI 1, vI s0, vR 165]) (dg dc216 18 rfl) rfl rfl ?_
  refine ex_cI (vs := [vR 165, vI s0, vI 1]) (st' := []) (F := (mo_throwsIf s0 1 M)) (Or.inr (Or.inl ⟨rfl, (dg dc216 19 rfl)⟩)) rfl rfl (rk1 (LOC.st (Nat.le_of_ble_eq_true rfl) rfl) rfl) rfl (fun _ r9 => mo_throwsIf_ok (Z := Z) (d := e9) (by omega)  r9) hf (fun z_8 M_7 he_6 hf => ?_)
  refine ex_if (t := 41) (dg dc216 20 rfl) rfl hf (fun _ hf => ?_) (fun _ hf => ?_)
  · refine ex_pu (ls' := [vR 165, vI v1, j2]) (st' := [vR 165]) (dg dc216 23 rfl) rfl rfl ?_
    refine ex_getO (dg dc216 24 rfl) rfl (LOC.st (Nat.le_of_ble_eq_true rfl) rfl) rfl ?_
    show EX Z _ 216 _ [vR 165, vI v1, j2] [vR 166] _ _
    refine ex_pu (ls' := [vR 165, vI v1, j2]) (st' := [vI 1115, vR 166]) (dg dc216 25 rfl) rfl rfl ?_
    refine ex_pu (ls' := [vR 165, vI v1, j2]) (st' := [vI v1, vI 1115, vR 166]) (dg dc216 26 rfl) rfl rfl ?_
    refine ex_iast (dg dc216 27 rfl) (LOC.st (Nat.le_of_ble_eq_true rfl) rfl) rfl rfl hf (fun _ hf => ?_)
    refine ex_gen hf (fun M_9 hM_10 hf => ?_)
    refine ex_pu (ls' := [vR 165, vI v1, j2]) (st' := [vI 0]) (dg dc216 28 rfl) rfl rfl ?_
    refine ex_pu (ls' := [vR 165, vI v1, vI 0]) (st' := []) (dg dc216 29 rfl) rfl rfl ?_
    refine mo_law_L52_ok hd  ?_ FU 0 M_9 hf
    · intro M_13 j2_14 hf
      refine ex_pu (ls' := [vR 165, vI v1, j2_14]) (st' := [vR 165]) (dg dc216 47 rfl) rfl rfl ?_
      refine ex_getO (dg dc216 48 rfl) rfl (LOC.st (Nat.le_of_ble_eq_true rfl) rfl) rfl ?_
      show EX Z _ 216 _ [vR 165, vI v1, j2_14] [vR 166] _ _
      refine ex_pu (ls' := [vR 165, vI v1, j2_14]) (st' := [vI 5, vR 166]) (dg dc216 49 rfl) rfl rfl ?_
      refine ex_pu (ls' := [vR 165, vI v1, j2_14]) (st' := [vI 1, vI 5, vR 166]) (dg dc216 50 rfl) rfl rfl ?_
      refine ex_iast (dg dc216 51 rfl) (LOC.st (Nat.le_of_ble_eq_true rfl) rfl) rfl rfl hf (fun _ hf => ?_)
      refine ex_gen hf (fun M_15 hM_16 hf => ?_)
      refine ex_pu (ls' := [vR 165, vI v1, j2_14]) (st' := [vR 165]) (dg dc216 52 rfl) rfl rfl ?_
      refine ex_pu (ls' := [vR 165, vI v1, j2_14]) (st' := [vI 0, vR 165]) (dg dc216 53 rfl) rfl rfl ?_
      refine ex_putI (dg dc216 54 rfl) rfl (LOC.st (Nat.le_of_ble_eq_true rfl) rfl) rfl rfl rfl ?_
      refine ex_gen hf (fun M_17 hM_18 hf => ?_)
      refine ex_pu (ls' := [vR 165, vI v1, j2_14]) (st' := [vI v1]) (dg dc216 55 rfl) rfl rfl ?_
      exact ex_ire (dg dc216 56 rfl) rfl hf
  · refine ex_pu (ls' := [vR 165, vI v1, j2]) (st' := [vI 0]) (dg dc216 21 rfl) rfl rfl ?_
    exact ex_ire (dg dc216 22 rfl) rfl hf
def mo_law_J19   (v1 s0 : Int) (M : MM) : OR :=
  (sM (mU M 165 13 s0) fun M_4 => (bif cmpB .ge v1 0 then (mo_law_J32   v1 0 M_4) else (mo_law_J32   v1 1 M_4)))
set_option maxRecDepth 4000 in
theorem mo_law_J19_ok {Z : Nat × (Nat → Int)} {d : Nat} (hd : 51 ≤ d)   {res : AR × MM}  : ∀ (v1 s0 : Int) (M : MM) (j2 : AV), mo_law_J19   v1 s0 M = some res → EX Z d 216 19 [vR 165, vI v1, j2] [vI s0, vR 165] M res := by
  obtain ⟨e9, rfl⟩ : ∃ e9, d = e9 + 1 := ⟨d - 1, by omega⟩
  intro v1 s0 M j2 hf
  unfold mo_law_J19 at hf
  refine ex_putI (dg dc216 11 rfl) rfl (LOC.st (Nat.le_of_ble_eq_true rfl) rfl) rfl rfl rfl ?_
  refine ex_gen hf (fun M_4 hM_5 hf => ?_)
  refine ex_pu (ls' := [vR 165, vI v1, j2]) (st' := [vR 165]) (dg dc216 12 rfl) rfl rfl ?_
  refine ex_pu (ls' := [vR 165, vI v1, j2]) (st' := [vI v1, vR 165]) (dg dc216 13 rfl) rfl rfl ?_
  refine ex_if (t := 31) (dg dc216 14 rfl) rfl hf (fun _ hf => ?_) (fun _ hf => ?_)
  · refine ex_pu (ls' := [vR 165, vI v1, j2]) (st' := [vI 0, vR 165]) (dg dc216 17 rfl) rfl rfl ?_
    exact mo_law_J32_ok hd   v1 0 M_4 _ hf
  · refine ex_pu (ls' := [vR 165, vI v1, j2]) (st' := [vI 1, vR 165]) (dg dc216 15 rfl) rfl rfl ?_
    refine ex_goto (t := 32) (dg dc216 16 rfl) rfl rfl ?_
    exact mo_law_J32_ok hd   v1 1 M_4 _ hf
def mo_law  (M : MM) : OR :=
  (bI (mo_readAll 0 M) fun z_3 M_2 => (bif cmpB .ge z_3 0 then (mo_law_J19   z_3 (-1) M_2) else (mo_law_J19   z_3 (M_2 165 11) M_2)))
set_option maxRecDepth 4000 in
theorem mo_law_ok {Z : Nat × (Nat → Int)} {d : Nat} (hd : 51 ≤ d) {M : MM}  {res : AR × MM} (hf : mo_law  M = some res) : EX Z d 216 0 (ent 216 [vR 165]) [] M res := by
  obtain ⟨e9, rfl⟩ : ∃ e9, d = e9 + 1 := ⟨d - 1, by omega⟩
  unfold mo_law at hf
  show EX Z _ 216 0 [vR 165, vU, vU] [] M res
  refine ex_pu (ls' := [vR 165, vU, vU]) (st' := [vR 165]) (dg dc216 0 rfl) rfl rfl ?_
  refine ex_pu (ls' := [vR 165, vU, vU]) (st' := [vI 0, vR 165]) (dg dc216 1 rfl) rfl rfl ?_
  refine ex_cI (vs := [vR 165, vI 0]) (st' := []) (F := (mo_readAll 0 M)) (Or.inr (Or.inl ⟨rfl, (dg dc216 2 rfl)⟩)) rfl rfl (rk1 (LOC.st (Nat.le_of_ble_eq_true rfl) rfl) rfl) rfl (fun _ r9 => mo_readAll_ok (Z := Z) (d := e9) (by omega)  r9) hf (fun z_3 M_2 he_1 hf => ?_)
  refine ex_pu (ls' := [vR 165, vI z_3, vU]) (st' := []) (dg dc216 3 rfl) rfl rfl ?_
  refine ex_pu (ls' := [vR 165, vI z_3, vU]) (st' := [vR 165]) (dg dc216 4 rfl) rfl rfl ?_
  refine ex_pu (ls' := [vR 165, vI z_3, vU]) (st' := [vI z_3, vR 165]) (dg dc216 5 rfl) rfl rfl ?_
  refine ex_if (t := 18) (dg dc216 6 rfl) rfl hf (fun _ hf => ?_) (fun _ hf => ?_)
  · refine ex_pu (ls' := [vR 165, vI z_3, vU]) (st' := [vI (-1), vR 165]) (dg dc216 10 rfl) rfl rfl ?_
    exact mo_law_J19_ok hd   z_3 (-1) M_2 _ hf
  · refine ex_pu (ls' := [vR 165, vI z_3, vU]) (st' := [vR 165, vR 165]) (dg dc216 7 rfl) rfl rfl ?_
    refine ex_getI (dg dc216 8 rfl) rfl (LOC.st (Nat.le_of_ble_eq_true rfl) rfl) rfl ?_
    refine ex_goto (t := 19) (dg dc216 9 rfl) rfl rfl ?_
    exact mo_law_J19_ok hd   z_3 (M_2 165 11) M_2 _ hf
-- GlassHillModel.looksAt
def il239 : List (Nat × Instr × Nat) := [(0, .aload_n 0, 1), (1, .iload_n 3, 1), (2, .putfield 331, 3), (5, .aload_n 0, 1), (6, .lload_n 1, 1), (7, .invokestatic 307, 3), (10, .putfield 334, 3), (13, .aload_n 0, 1), (14, .aload_n 0, 1), (15, .iload_n 3, 1), (16, .aload_n 0, 1), (17, .getfield 334, 3), (20, .invokevirtual 355, 3), (23, .putfield 337, 3), (26, .aload_n 0, 1), (27, .aload_n 0, 1), (28, .getfield 13, 3), (31, .bipush 6, 2), (33, .iaload, 1), (34, .lload_n 1, 1), (35, .invokestatic 303, 3), (38, .iadd, 1), (39, .putfield 328, 3), (42, .aload_n 0, 1), (43, .aload_n 0, 1), (44, .lload_n 1, 1), (45, .iconst 2, 1), (46, .invokevirtual 358, 3), (49, .invokestatic 361, 3), (52, .putfield 340, 3), (55, .aload_n 0, 1), (56, .aload_n 0, 1), (57, .aload_n 0, 1), (58, .lload_n 1, 1), (59, .iconst 2, 1), (60, .invokevirtual 358, 3), (63, .invokevirtual 367, 3), (66, .putfield 343, 3), (69, .return_, 1)]
theorem dc239 : dcs (mC 239) il239 := dc_of (by decide +kernel)
def mo_looksAt (v1 : Int) (v3 : Int) (M : MM) : OR :=
  (sM (mU M 165 17 v3) fun M_1 => (bI (mo_placeOf v1 M_1) fun z_5 M_4 => (sM (mU M_4 165 18 z_5) fun M_6 => (bI (mo_otherEnd v3 (M_6 165 18) M_6) fun z_10 M_9 => (sM (mU M_9 165 19 z_10) fun M_11 => (bif inB 6 1964 then (bI (mo_hoursOf v1 M_11) fun z_15 M_14 => (sM (mU M_14 165 20 ((M_11 166 6) + z_15)) fun M_16 => (bI (mo_thingsIn v1 2 M_16) fun z_20 M_19 => (bI (jdk_bitCount z_20 M_19) fun z_23 M_22 => (sM (mU M_22 165 21 z_23) fun M_24 => (bI (mo_thingsIn v1 2 M_24) fun z_28 M_27 => (bI (mo_worthOf z_28 M_27) fun z_31 M_30 => (sM (mU M_30 165 22 z_31) fun M_32 => some (rV, M_32))))))))) else none))))))
set_option maxRecDepth 4000 in
theorem mo_looksAt_ok {Z : Nat × (Nat → Int)} {d : Nat} (hd : 3 ≤ d) {M : MM}  {v1 v3 : Int} {res : AR × MM} (hf : mo_looksAt v1 v3 M = some res) : EX Z d 239 0 (ent 239 [vR 165, vJ v1, vI v3]) [] M res := by
  obtain ⟨e9, rfl⟩ : ∃ e9, d = e9 + 1 := ⟨d - 1, by omega⟩
  unfold mo_looksAt at hf
  show EX Z _ 239 0 [vR 165, vJ v1, vU, vI v3] [] M res
  refine ex_pu (ls' := [vR 165, vJ v1, vU, vI v3]) (st' := [vR 165]) (dg dc239 0 rfl) rfl rfl ?_
  refine ex_pu (ls' := [vR 165, vJ v1, vU, vI v3]) (st' := [vI v3, vR 165]) (dg dc239 1 rfl) rfl rfl ?_
  refine ex_putI (dg dc239 2 rfl) rfl (LOC.st (Nat.le_of_ble_eq_true rfl) rfl) rfl rfl rfl ?_
  refine ex_gen hf (fun M_1 hM_2 hf => ?_)
  refine ex_pu (ls' := [vR 165, vJ v1, vU, vI v3]) (st' := [vR 165]) (dg dc239 3 rfl) rfl rfl ?_
  refine ex_pu (ls' := [vR 165, vJ v1, vU, vI v3]) (st' := [vJ v1, vR 165]) (dg dc239 4 rfl) rfl rfl ?_
  refine ex_cI (vs := [vJ v1]) (st' := [vR 165]) (F := (mo_placeOf v1 M_1)) (Or.inl ⟨rfl, (dg dc239 5 rfl)⟩) rfl rfl (Or.inl rfl) rfl (fun _ r9 => mo_placeOf_ok (Z := Z) (d := e9) (by omega)  r9) hf (fun z_5 M_4 he_3 hf => ?_)
  refine ex_putI (dg dc239 6 rfl) rfl (LOC.st (Nat.le_of_ble_eq_true rfl) rfl) rfl rfl rfl ?_
  refine ex_gen hf (fun M_6 hM_7 hf => ?_)
  refine ex_pu (ls' := [vR 165, vJ v1, vU, vI v3]) (st' := [vR 165]) (dg dc239 7 rfl) rfl rfl ?_
  refine ex_pu (ls' := [vR 165, vJ v1, vU, vI v3]) (st' := [vR 165, vR 165]) (dg dc239 8 rfl) rfl rfl ?_
  refine ex_pu (ls' := [vR 165, vJ v1, vU, vI v3]) (st' := [vI v3, vR 165, vR 165]) (dg dc239 9 rfl) rfl rfl ?_
  refine ex_pu (ls' := [vR 165, vJ v1, vU, vI v3]) (st' := [vR 165, vI v3, vR 165, vR 165]) (dg dc239 10 rfl) rfl rfl ?_
  refine ex_getI (dg dc239 11 rfl) rfl (LOC.st (Nat.le_of_ble_eq_true rfl) rfl) rfl ?_
  refine ex_cI (vs := [vR 165, vI v3, vI (M_6 165 18)]) (st' := [vR 165]) (F := (mo_otherEnd v3 (M_6 165 18) M_6)) (Or.inr (Or.inl ⟨rfl, (dg dc239 12 rfl)⟩)) rfl rfl (rk1 (LOC.st (Nat.le_of_ble_eq_true rfl) rfl) rfl) rfl (fun _ r9 => mo_otherEnd_ok (Z := Z) (d := e9) (by omega)  r9) hf (fun z_10 M_9 he_8 hf => ?_)
  refine ex_putI (dg dc239 13 rfl) rfl (LOC.st (Nat.le_of_ble_eq_true rfl) rfl) rfl rfl rfl ?_
  refine ex_gen hf (fun M_11 hM_12 hf => ?_)
  refine ex_pu (ls' := [vR 165, vJ v1, vU, vI v3]) (st' := [vR 165]) (dg dc239 14 rfl) rfl rfl ?_
  refine ex_pu (ls' := [vR 165, vJ v1, vU, vI v3]) (st' := [vR 165, vR 165]) (dg dc239 15 rfl) rfl rfl ?_
  refine ex_getO (dg dc239 16 rfl) rfl (LOC.st (Nat.le_of_ble_eq_true rfl) rfl) rfl ?_
  show EX Z _ 239 _ [vR 165, vJ v1, vU, vI v3] [vR 166, vR 165] _ _
  refine ex_pu (ls' := [vR 165, vJ v1, vU, vI v3]) (st' := [vI 6, vR 166, vR 165]) (dg dc239 17 rfl) rfl rfl ?_
  refine ex_iald (dg dc239 18 rfl) (LOC.st (Nat.le_of_ble_eq_true rfl) rfl) rfl hf (fun _ hf => ?_)
  refine ex_pu (ls' := [vR 165, vJ v1, vU, vI v3]) (st' := [vJ v1, vI (M_11 166 6), vR 165]) (dg dc239 19 rfl) rfl rfl ?_
  refine ex_cI (vs := [vJ v1]) (st' := [vI (M_11 166 6), vR 165]) (F := (mo_hoursOf v1 M_11)) (Or.inl ⟨rfl, (dg dc239 20 rfl)⟩) rfl rfl (Or.inl rfl) rfl (fun _ r9 => mo_hoursOf_ok (Z := Z) (d := e9) (by omega)  r9) hf (fun z_15 M_14 he_13 hf => ?_)
  refine ex_pu (ls' := [vR 165, vJ v1, vU, vI v3]) (st' := [vI ((M_11 166 6) + z_15), vR 165]) (dg dc239 21 rfl) rfl rfl ?_
  refine ex_putI (dg dc239 22 rfl) rfl (LOC.st (Nat.le_of_ble_eq_true rfl) rfl) rfl rfl rfl ?_
  refine ex_gen hf (fun M_16 hM_17 hf => ?_)
  refine ex_pu (ls' := [vR 165, vJ v1, vU, vI v3]) (st' := [vR 165]) (dg dc239 23 rfl) rfl rfl ?_
  refine ex_pu (ls' := [vR 165, vJ v1, vU, vI v3]) (st' := [vR 165, vR 165]) (dg dc239 24 rfl) rfl rfl ?_
  refine ex_pu (ls' := [vR 165, vJ v1, vU, vI v3]) (st' := [vJ v1, vR 165, vR 165]) (dg dc239 25 rfl) rfl rfl ?_
  refine ex_pu (ls' := [vR 165, vJ v1, vU, vI v3]) (st' := [vI 2, vJ v1, vR 165, vR 165]) (dg dc239 26 rfl) rfl rfl ?_
  refine ex_cI (vs := [vR 165, vJ v1, vI 2]) (st' := [vR 165]) (F := (mo_thingsIn v1 2 M_16)) (Or.inr (Or.inl ⟨rfl, (dg dc239 27 rfl)⟩)) rfl rfl (rk1 (LOC.st (Nat.le_of_ble_eq_true rfl) rfl) rfl) rfl (fun _ r9 => mo_thingsIn_ok (Z := Z) (d := e9) (by omega)  r9) hf (fun z_20 M_19 he_18 hf => ?_)
  refine ex_cI (vs := [vI z_20]) (st' := [vR 165]) (F := (jdk_bitCount z_20 M_19)) (Or.inl ⟨rfl, (dg dc239 28 rfl)⟩) rfl rfl (Or.inl rfl) rfl (fun _ r9 => jdk_bitCount_ok (Z := Z) (d := e9) (by omega)  r9) hf (fun z_23 M_22 he_21 hf => ?_)
  refine ex_putI (dg dc239 29 rfl) rfl (LOC.st (Nat.le_of_ble_eq_true rfl) rfl) rfl rfl rfl ?_
  refine ex_gen hf (fun M_24 hM_25 hf => ?_)
  refine ex_pu (ls' := [vR 165, vJ v1, vU, vI v3]) (st' := [vR 165]) (dg dc239 30 rfl) rfl rfl ?_
  refine ex_pu (ls' := [vR 165, vJ v1, vU, vI v3]) (st' := [vR 165, vR 165]) (dg dc239 31 rfl) rfl rfl ?_
  refine ex_pu (ls' := [vR 165, vJ v1, vU, vI v3]) (st' := [vR 165, vR 165, vR 165]) (dg dc239 32 rfl) rfl rfl ?_
  refine ex_pu (ls' := [vR 165, vJ v1, vU, vI v3]) (st' := [vJ v1, vR 165, vR 165, vR 165]) (dg dc239 33 rfl) rfl rfl ?_
  refine ex_pu (ls' := [vR 165, vJ v1, vU, vI v3]) (st' := [vI 2, vJ v1, vR 165, vR 165, vR 165]) (dg dc239 34 rfl) rfl rfl ?_
  refine ex_cI (vs := [vR 165, vJ v1, vI 2]) (st' := [vR 165, vR 165]) (F := (mo_thingsIn v1 2 M_24)) (Or.inr (Or.inl ⟨rfl, (dg dc239 35 rfl)⟩)) rfl rfl (rk1 (LOC.st (Nat.le_of_ble_eq_true rfl) rfl) rfl) rfl (fun _ r9 => mo_thingsIn_ok (Z := Z) (d := e9) (by omega)  r9) hf (fun z_28 M_27 he_26 hf => ?_)
  refine ex_cI (vs := [vR 165, vI z_28]) (st' := [vR 165]) (F := (mo_worthOf z_28 M_27)) (Or.inr (Or.inl ⟨rfl, (dg dc239 36 rfl)⟩)) rfl rfl (rk1 (LOC.st (Nat.le_of_ble_eq_true rfl) rfl) rfl) rfl (fun _ r9 => mo_worthOf_ok (Z := Z) (d := e9) (by omega)  r9) hf (fun z_31 M_30 he_29 hf => ?_)
  refine ex_putI (dg dc239 37 rfl) rfl (LOC.st (Nat.le_of_ble_eq_true rfl) rfl) rfl rfl rfl ?_
  refine ex_gen hf (fun M_32 hM_33 hf => ?_)
  exact ex_vre (dg dc239 38 rfl) rfl hf
-- GlassHillModel.hoursBy
def il240 : List (Nat × Instr × Nat) := [(0, .aload_n 0, 1), (1, .lload_n 1, 1), (2, .iload_n 3, 1), (3, .invokevirtual 370, 3), (6, .aload_n 0, 1), (7, .iload_n 3, 1), (8, .iconst 2, 1), (9, .invokevirtual 352, 3), (12, .aload_n 0, 1), (13, .iconst 1, 1), (14, .invokevirtual 374, 3), (17, .iadd, 1), (18, .ireturn, 1)]
theorem dc240 : dcs (mC 240) il240 := dc_of (by decide +kernel)
def mo_hoursBy (v1 : Int) (v3 : Int) (M : MM) : OR :=
  (bV (mo_looksAt v1 v3 M) fun M_2 => (bI (mo_ofRoad v3 2 M_2) fun z_6 M_5 => (bI (mo_sumOf 1 M_5) fun z_9 M_8 => some (rI (z_6 + z_9), M_8))))
set_option maxRecDepth 4000 in
theorem mo_hoursBy_ok {Z : Nat × (Nat → Int)} {d : Nat} (hd : 4 ≤ d) {M : MM}  {v1 v3 : Int} {res : AR × MM} (hf : mo_hoursBy v1 v3 M = some res) : EX Z d 240 0 (ent 240 [vR 165, vJ v1, vI v3]) [] M res := by
  obtain ⟨e9, rfl⟩ : ∃ e9, d = e9 + 1 := ⟨d - 1, by omega⟩
  unfold mo_hoursBy at hf
  show EX Z _ 240 0 [vR 165, vJ v1, vU, vI v3] [] M res
  refine ex_pu (ls' := [vR 165, vJ v1, vU, vI v3]) (st' := [vR 165]) (dg dc240 0 rfl) rfl rfl ?_
  refine ex_pu (ls' := [vR 165, vJ v1, vU, vI v3]) (st' := [vJ v1, vR 165]) (dg dc240 1 rfl) rfl rfl ?_
  refine ex_pu (ls' := [vR 165, vJ v1, vU, vI v3]) (st' := [vI v3, vJ v1, vR 165]) (dg dc240 2 rfl) rfl rfl ?_
  refine ex_cV (vs := [vR 165, vJ v1, vI v3]) (st' := []) (F := (mo_looksAt v1 v3 M)) (Or.inr (Or.inl ⟨rfl, (dg dc240 3 rfl)⟩)) rfl rfl (rk1 (LOC.st (Nat.le_of_ble_eq_true rfl) rfl) rfl) rfl (fun _ r9 => mo_looksAt_ok (Z := Z) (d := e9) (by omega)  r9) hf (fun M_2 he_1 hf => ?_)
  refine ex_pu (ls' := [vR 165, vJ v1, vU, vI v3]) (st' := [vR 165]) (dg dc240 4 rfl) rfl rfl ?_
  refine ex_pu (ls' := [vR 165, vJ v1, vU, vI v3]) (st' := [vI v3, vR 165]) (dg dc240 5 rfl) rfl rfl ?_
  refine ex_pu (ls' := [vR 165, vJ v1, vU, vI v3]) (st' := [vI 2, vI v3, vR 165]) (dg dc240 6 rfl) rfl rfl ?_
  refine ex_cI (vs := [vR 165, vI v3, vI 2]) (st' := []) (F := (mo_ofRoad v3 2 M_2)) (Or.inr (Or.inl ⟨rfl, (dg dc240 7 rfl)⟩)) rfl rfl (rk1 (LOC.st (Nat.le_of_ble_eq_true rfl) rfl) rfl) rfl (fun _ r9 => mo_ofRoad_ok (Z := Z) (d := e9) (by omega)  r9) hf (fun z_6 M_5 he_4 hf => ?_)
  refine ex_pu (ls' := [vR 165, vJ v1, vU, vI v3]) (st' := [vR 165, vI z_6]) (dg dc240 8 rfl) rfl rfl ?_
  refine ex_pu (ls' := [vR 165, vJ v1, vU, vI v3]) (st' := [vI 1, vR 165, vI z_6]) (dg dc240 9 rfl) rfl rfl ?_
  refine ex_cI (vs := [vR 165, vI 1]) (st' := [vI z_6]) (F := (mo_sumOf 1 M_5)) (Or.inr (Or.inl ⟨rfl, (dg dc240 10 rfl)⟩)) rfl rfl (rk1 (LOC.st (Nat.le_of_ble_eq_true rfl) rfl) rfl) rfl (fun _ r9 => mo_sumOf_ok (Z := Z) (d := e9) (by omega)  r9) hf (fun z_9 M_8 he_7 hf => ?_)
  refine ex_pu (ls' := [vR 165, vJ v1, vU, vI v3]) (st' := [vI (z_6 + z_9)]) (dg dc240 11 rfl) rfl rfl ?_
  exact ex_ire (dg dc240 12 rfl) rfl hf
-- GlassHillModel.canGo
def il242 : List (Nat × Instr × Nat) := [(0, .lload_n 1, 1), (1, .invokestatic 307, 3), (4, .istore 4, 2), (6, .aload_n 0, 1), (7, .iload_n 3, 1), (8, .iload 4, 2), (10, .invokevirtual 355, 3), (13, .istore 5, 2), (15, .iload 5, 2), (17, .ifCond .lt 32, 3), (20, .aload_n 0, 1), (21, .iload 4, 2), (23, .invokevirtual 159, 3), (26, .ifCond .eq 25, 3), (29, .lload_n 1, 1), (30, .invokestatic 317, 3), (33, .iload 4, 2), (35, .invokestatic 323, 3), (38, .ifCond .ne 13, 3), (41, .lload_n 1, 1), (42, .invokestatic 310, 3), (45, .iload_n 3, 1), (46, .if_icmp .eq 5, 3), (49, .iconst 0, 1), (50, .ireturn, 1), (51, .aload_n 0, 1), (52, .lload_n 1, 1), (53, .iload_n 3, 1), (54, .invokevirtual 377, 3), (57, .istore 6, 2), (59, .aload_n 0, 1), (60, .iconst 0, 1), (61, .invokevirtual 374, 3), (64, .ifCond .ne 23, 3), (67, .aload_n 0, 1), (68, .iload 5, 2), (70, .aload_n 0, 1), (71, .getfield 328, 3), (74, .iload 6, 2), (76, .iadd, 1), (77, .invokevirtual 380, 3), (80, .ifCond .ne 7, 3), (83, .iconst 1, 1), (84, .goto 4, 3), (87, .iconst 0, 1), (88, .ireturn, 1)]
theorem dc242 : dcs (mC 242) il242 := dc_of (by decide +kernel)
def mo_canGo_J51   (v1 v3 v5 : Int) (M : MM) : OR :=
  (bI (mo_hoursBy v1 v3 M) fun z_12 M_11 => (bI (mo_sumOf 0 M_11) fun z_15 M_14 => (bif cmpB .ne z_15 0 then some (rI 0, M_14) else (bI (mo_isEating v5 ((M_14 165 20) + z_12) M_14) fun z_18 M_17 => (bif cmpB .ne z_18 0 then some (rI 0, M_17) else some (rI 1, M_17))))))
set_option maxRecDepth 4000 in
theorem mo_canGo_J51_ok {Z : Nat × (Nat → Int)} {d : Nat} (hd : 5 ≤ d)   {res : AR × MM}  : ∀ (v1 v3 v5 : Int) (M : MM) (j4 j6 : AV), mo_canGo_J51   v1 v3 v5 M = some res → EX Z d 242 51 [vR 165, vJ v1, vU, vI v3, j4, vI v5, j6] [] M res := by
  obtain ⟨e9, rfl⟩ : ∃ e9, d = e9 + 1 := ⟨d - 1, by omega⟩
  intro v1 v3 v5 M j4 j6 hf
  unfold mo_canGo_J51 at hf
  refine ex_pu (ls' := [vR 165, vJ v1, vU, vI v3, j4, vI v5, j6]) (st' := [vR 165]) (dg dc242 25 rfl) rfl rfl ?_
  refine ex_pu (ls' := [vR 165, vJ v1, vU, vI v3, j4, vI v5, j6]) (st' := [vJ v1, vR 165]) (dg dc242 26 rfl) rfl rfl ?_
  refine ex_pu (ls' := [vR 165, vJ v1, vU, vI v3, j4, vI v5, j6]) (st' := [vI v3, vJ v1, vR 165]) (dg dc242 27 rfl) rfl rfl ?_
  refine ex_cI (vs := [vR 165, vJ v1, vI v3]) (st' := []) (F := (mo_hoursBy v1 v3 M)) (Or.inr (Or.inl ⟨rfl, (dg dc242 28 rfl)⟩)) rfl rfl (rk1 (LOC.st (Nat.le_of_ble_eq_true rfl) rfl) rfl) rfl (fun _ r9 => mo_hoursBy_ok (Z := Z) (d := e9) (by omega)  r9) hf (fun z_12 M_11 he_10 hf => ?_)
  refine ex_pu (ls' := [vR 165, vJ v1, vU, vI v3, j4, vI v5, vI z_12]) (st' := []) (dg dc242 29 rfl) rfl rfl ?_
  refine ex_pu (ls' := [vR 165, vJ v1, vU, vI v3, j4, vI v5, vI z_12]) (st' := [vR 165]) (dg dc242 30 rfl) rfl rfl ?_
  refine ex_pu (ls' := [vR 165, vJ v1, vU, vI v3, j4, vI v5, vI z_12]) (st' := [vI 0, vR 165]) (dg dc242 31 rfl) rfl rfl ?_
  refine ex_cI (vs := [vR 165, vI 0]) (st' := []) (F := (mo_sumOf 0 M_11)) (Or.inr (Or.inl ⟨rfl, (dg dc242 32 rfl)⟩)) rfl rfl (rk1 (LOC.st (Nat.le_of_ble_eq_true rfl) rfl) rfl) rfl (fun _ r9 => mo_sumOf_ok (Z := Z) (d := e9) (by omega)  r9) hf (fun z_15 M_14 he_13 hf => ?_)
  refine ex_if (t := 87) (dg dc242 33 rfl) rfl hf (fun _ hf => ?_) (fun _ hf => ?_)
  · refine ex_pu (ls' := [vR 165, vJ v1, vU, vI v3, j4, vI v5, vI z_12]) (st' := [vI 0]) (dg dc242 44 rfl) rfl rfl ?_
    exact ex_ire (dg dc242 45 rfl) rfl hf
  · refine ex_pu (ls' := [vR 165, vJ v1, vU, vI v3, j4, vI v5, vI z_12]) (st' := [vR 165]) (dg dc242 34 rfl) rfl rfl ?_
    refine ex_pu (ls' := [vR 165, vJ v1, vU, vI v3, j4, vI v5, vI z_12]) (st' := [vI v5, vR 165]) (dg dc242 35 rfl) rfl rfl ?_
    refine ex_pu (ls' := [vR 165, vJ v1, vU, vI v3, j4, vI v5, vI z_12]) (st' := [vR 165, vI v5, vR 165]) (dg dc242 36 rfl) rfl rfl ?_
    refine ex_getI (dg dc242 37 rfl) rfl (LOC.st (Nat.le_of_ble_eq_true rfl) rfl) rfl ?_
    refine ex_pu (ls' := [vR 165, vJ v1, vU, vI v3, j4, vI v5, vI z_12]) (st' := [vI z_12, vI (M_14 165 20), vI v5, vR 165]) (dg dc242 38 rfl) rfl rfl ?_
    refine ex_pu (ls' := [vR 165, vJ v1, vU, vI v3, j4, vI v5, vI z_12]) (st' := [vI ((M_14 165 20) + z_12), vI v5, vR 165]) (dg dc242 39 rfl) rfl rfl ?_
    refine ex_cI (vs := [vR 165, vI v5, vI ((M_14 165 20) + z_12)]) (st' := []) (F := (mo_isEating v5 ((M_14 165 20) + z_12) M_14)) (Or.inr (Or.inl ⟨rfl, (dg dc242 40 rfl)⟩)) rfl rfl (rk1 (LOC.st (Nat.le_of_ble_eq_true rfl) rfl) rfl) rfl (fun _ r9 => mo_isEating_ok (Z := Z) (d := e9) (by omega)  r9) hf (fun z_18 M_17 he_16 hf => ?_)
    refine ex_if (t := 87) (dg dc242 41 rfl) rfl hf (fun _ hf => ?_) (fun _ hf => ?_)
    · refine ex_pu (ls' := [vR 165, vJ v1, vU, vI v3, j4, vI v5, vI z_12]) (st' := [vI 0]) (dg dc242 44 rfl) rfl rfl ?_
      exact ex_ire (dg dc242 45 rfl) rfl hf
    · refine ex_pu (ls' := [vR 165, vJ v1, vU, vI v3, j4, vI v5, vI z_12]) (st' := [vI 1]) (dg dc242 42 rfl) rfl rfl ?_
      refine ex_goto (t := 88) (dg dc242 43 rfl) rfl rfl ?_
      exact ex_ire (dg dc242 45 rfl) rfl hf
def mo_canGo (v1 : Int) (v3 : Int) (M : MM) : OR :=
  (bI (mo_placeOf v1 M) fun z_3 M_2 => (bI (mo_otherEnd v3 z_3 M_2) fun z_6 M_5 => (bif cmpB .lt z_6 0 then some (rI 0, M_5) else (bI (mo_isKeeper z_3 M_5) fun z_9 M_8 => (bif cmpB .eq z_9 0 then (mo_canGo_J51   v1 v3 z_6 M_8) else (bI (mo_passedIn v1 M_8) fun z_21 M_20 => (bI (mo_has z_21 z_3 M_20) fun z_24 M_23 => (bif cmpB .ne z_24 0 then (mo_canGo_J51   v1 v3 z_6 M_23) else (bI (mo_roadOf v1 M_23) fun z_27 M_26 => (bif cmpB .eq z_27 v3 then (mo_canGo_J51   v1 v3 z_6 M_26) else some (rI 0, M_26)))))))))))
set_option maxRecDepth 4000 in
theorem mo_canGo_ok {Z : Nat × (Nat → Int)} {d : Nat} (hd : 5 ≤ d) {M : MM}  {v1 v3 : Int} {res : AR × MM} (hf : mo_canGo v1 v3 M = some res) : EX Z d 242 0 (ent 242 [vR 165, vJ v1, vI v3]) [] M res := by
  obtain ⟨e9, rfl⟩ : ∃ e9, d = e9 + 1 := ⟨d - 1, by omega⟩
  unfold mo_canGo at hf
  show EX Z _ 242 0 [vR 165, vJ v1, vU, vI v3, vU, vU, vU] [] M res
  refine ex_pu (ls' := [vR 165, vJ v1, vU, vI v3, vU, vU, vU]) (st' := [vJ v1]) (dg dc242 0 rfl) rfl rfl ?_
  refine ex_cI (vs := [vJ v1]) (st' := []) (F := (mo_placeOf v1 M)) (Or.inl ⟨rfl, (dg dc242 1 rfl)⟩) rfl rfl (Or.inl rfl) rfl (fun _ r9 => mo_placeOf_ok (Z := Z) (d := e9) (by omega)  r9) hf (fun z_3 M_2 he_1 hf => ?_)
  refine ex_pu (ls' := [vR 165, vJ v1, vU, vI v3, vI z_3, vU, vU]) (st' := []) (dg dc242 2 rfl) rfl rfl ?_
  refine ex_pu (ls' := [vR 165, vJ v1, vU, vI v3, vI z_3, vU, vU]) (st' := [vR 165]) (dg dc242 3 rfl) rfl rfl ?_
  refine ex_pu (ls' := [vR 165, vJ v1, vU, vI v3, vI z_3, vU, vU]) (st' := [vI v3, vR 165]) (dg dc242 4 rfl) rfl rfl ?_
  refine ex_pu (ls' := [vR 165, vJ v1, vU, vI v3, vI z_3, vU, vU]) (st' := [vI z_3, vI v3, vR 165]) (dg dc242 5 rfl) rfl rfl ?_
  refine ex_cI (vs := [vR 165, vI v3, vI z_3]) (st' := []) (F := (mo_otherEnd v3 z_3 M_2)) (Or.inr (Or.inl ⟨rfl, (dg dc242 6 rfl)⟩)) rfl rfl (rk1 (LOC.st (Nat.le_of_ble_eq_true rfl) rfl) rfl) rfl (fun _ r9 => mo_otherEnd_ok (Z := Z) (d := e9) (by omega)  r9) hf (fun z_6 M_5 he_4 hf => ?_)
  refine ex_pu (ls' := [vR 165, vJ v1, vU, vI v3, vI z_3, vI z_6, vU]) (st' := []) (dg dc242 7 rfl) rfl rfl ?_
  refine ex_pu (ls' := [vR 165, vJ v1, vU, vI v3, vI z_3, vI z_6, vU]) (st' := [vI z_6]) (dg dc242 8 rfl) rfl rfl ?_
  refine ex_if (t := 49) (dg dc242 9 rfl) rfl hf (fun _ hf => ?_) (fun _ hf => ?_)
  · refine ex_pu (ls' := [vR 165, vJ v1, vU, vI v3, vI z_3, vI z_6, vU]) (st' := [vI 0]) (dg dc242 23 rfl) rfl rfl ?_
    exact ex_ire (dg dc242 24 rfl) rfl hf
  · refine ex_pu (ls' := [vR 165, vJ v1, vU, vI v3, vI z_3, vI z_6, vU]) (st' := [vR 165]) (dg dc242 10 rfl) rfl rfl ?_
    refine ex_pu (ls' := [vR 165, vJ v1, vU, vI v3, vI z_3, vI z_6, vU]) (st' := [vI z_3, vR 165]) (dg dc242 11 rfl) rfl rfl ?_
    refine ex_cI (vs := [vR 165, vI z_3]) (st' := []) (F := (mo_isKeeper z_3 M_5)) (Or.inr (Or.inl ⟨rfl, (dg dc242 12 rfl)⟩)) rfl rfl (rk1 (LOC.st (Nat.le_of_ble_eq_true rfl) rfl) rfl) rfl (fun _ r9 => mo_isKeeper_ok (Z := Z) (d := e9) (by omega)  r9) hf (fun z_9 M_8 he_7 hf => ?_)
    refine ex_if (t := 51) (dg dc242 13 rfl) rfl hf (fun _ hf => ?_) (fun _ hf => ?_)
    · exact mo_canGo_J51_ok hd   v1 v3 z_6 M_8 _ _ hf
    · refine ex_pu (ls' := [vR 165, vJ v1, vU, vI v3, vI z_3, vI z_6, vU]) (st' := [vJ v1]) (dg dc242 14 rfl) rfl rfl ?_
      refine ex_cI (vs := [vJ v1]) (st' := []) (F := (mo_passedIn v1 M_8)) (Or.inl ⟨rfl, (dg dc242 15 rfl)⟩) rfl rfl (Or.inl rfl) rfl (fun _ r9 => mo_passedIn_ok (Z := Z) (d := e9) (by omega)  r9) hf (fun z_21 M_20 he_19 hf => ?_)
      refine ex_pu (ls' := [vR 165, vJ v1, vU, vI v3, vI z_3, vI z_6, vU]) (st' := [vI z_3, vI z_21]) (dg dc242 16 rfl) rfl rfl ?_
      refine ex_cI (vs := [vI z_21, vI z_3]) (st' := []) (F := (mo_has z_21 z_3 M_20)) (Or.inl ⟨rfl, (dg dc242 17 rfl)⟩) rfl rfl (Or.inl rfl) rfl (fun _ r9 => mo_has_ok (Z := Z) (d := e9) (by omega)  r9) hf (fun z_24 M_23 he_22 hf => ?_)
      refine ex_if (t := 51) (dg dc242 18 rfl) rfl hf (fun _ hf => ?_) (fun _ hf => ?_)
      · exact mo_canGo_J51_ok hd   v1 v3 z_6 M_23 _ _ hf
      · refine ex_pu (ls' := [vR 165, vJ v1, vU, vI v3, vI z_3, vI z_6, vU]) (st' := [vJ v1]) (dg dc242 19 rfl) rfl rfl ?_
        refine ex_cI (vs := [vJ v1]) (st' := []) (F := (mo_roadOf v1 M_23)) (Or.inl ⟨rfl, (dg dc242 20 rfl)⟩) rfl rfl (Or.inl rfl) rfl (fun _ r9 => mo_roadOf_ok (Z := Z) (d := e9) (by omega)  r9) hf (fun z_27 M_26 he_25 hf => ?_)
        refine ex_pu (ls' := [vR 165, vJ v1, vU, vI v3, vI z_3, vI z_6, vU]) (st' := [vI v3, vI z_27]) (dg dc242 21 rfl) rfl rfl ?_
        refine ex_icmp (t := 51) (dg dc242 22 rfl) rfl hf (fun _ hf => ?_) (fun _ hf => ?_)
        · exact mo_canGo_J51_ok hd   v1 v3 z_6 M_26 _ _ hf
        · refine ex_pu (ls' := [vR 165, vJ v1, vU, vI v3, vI z_3, vI z_6, vU]) (st' := [vI 0]) (dg dc242 23 rfl) rfl rfl ?_
          exact ex_ire (dg dc242 24 rfl) rfl hf
-- GlassHillModel.goes
def il243 : List (Nat × Instr × Nat) := [(0, .aload_n 0, 1), (1, .lload_n 1, 1), (2, .iload_n 3, 1), (3, .invokevirtual 383, 3), (6, .ifCond .ne 7, 3), (9, .ldc2_w 281, 3), (12, .lreturn, 1), (13, .lload_n 1, 1), (14, .invokestatic 303, 3), (17, .aload_n 0, 1), (18, .lload_n 1, 1), (19, .iload_n 3, 1), (20, .invokevirtual 377, 3), (23, .iadd, 1), (24, .istore 4, 2), (26, .iload 4, 2), (28, .bipush 30, 2), (30, .if_icmp .le 7, 3), (33, .ldc2_w 281, 3), (36, .lreturn, 1), (37, .lload_n 1, 1), (38, .iconst 0, 1), (39, .iconst 5, 1), (40, .iload 4, 2), (42, .invokestatic 283, 3), (45, .iconst 5, 1), (46, .iconst 4, 1), (47, .aload_n 0, 1), (48, .getfield 337, 3), (51, .invokestatic 283, 3), (54, .bipush 9, 2), (56, .iconst 5, 1), (57, .iload_n 3, 1), (58, .iconst 1, 1), (59, .iadd, 1), (60, .invokestatic 283, 3), (63, .lreturn, 1)]
theorem dc243 : dcs (mC 243) il243 := dc_of (by decide +kernel)
def mo_goes (v1 : Int) (v3 : Int) (M : MM) : OR :=
  (bI (mo_canGo v1 v3 M) fun z_3 M_2 => (bif cmpB .ne z_3 0 then (bI (mo_hoursOf v1 M_2) fun z_6 M_5 => (bI (mo_hoursBy v1 v3 M_5) fun z_9 M_8 => (bif cmpB .le (z_6 + z_9) 30 then (bJ (mo_with v1 0 5 (z_6 + z_9) M_8) fun z_12 M_11 => (bJ (mo_with z_12 5 4 (M_11 165 19) M_11) fun z_15 M_14 => (bJ (mo_with z_15 9 5 (v3 + 1) M_14) fun z_18 M_17 => some (rJ z_18, M_17)))) else some (rJ (-1), M_8)))) else some (rJ (-1), M_2)))
set_option maxRecDepth 4000 in
theorem mo_goes_ok {Z : Nat × (Nat → Int)} {d : Nat} (hd : 6 ≤ d) {M : MM}  {v1 v3 : Int} {res : AR × MM} (hf : mo_goes v1 v3 M = some res) : EX Z d 243 0 (ent 243 [vR 165, vJ v1, vI v3]) [] M res := by
  obtain ⟨e9, rfl⟩ : ∃ e9, d = e9 + 1 := ⟨d - 1, by omega⟩
  unfold mo_goes at hf
  show EX Z _ 243 0 [vR 165, vJ v1, vU, vI v3, vU] [] M res
  refine ex_pu (ls' := [vR 165, vJ v1, vU, vI v3, vU]) (st' := [vR 165]) (dg dc243 0 rfl) rfl rfl ?_
  refine ex_pu (ls' := [vR 165, vJ v1, vU, vI v3, vU]) (st' := [vJ v1, vR 165]) (dg dc243 1 rfl) rfl rfl ?_
  refine ex_pu (ls' := [vR 165, vJ v1, vU, vI v3, vU]) (st' := [vI v3, vJ v1, vR 165]) (dg dc243 2 rfl) rfl rfl ?_
  refine ex_cI (vs := [vR 165, vJ v1, vI v3]) (st' := []) (F := (mo_canGo v1 v3 M)) (Or.inr (Or.inl ⟨rfl, (dg dc243 3 rfl)⟩)) rfl rfl (rk1 (LOC.st (Nat.le_of_ble_eq_true rfl) rfl) rfl) rfl (fun _ r9 => mo_canGo_ok (Z := Z) (d := e9) (by omega)  r9) hf (fun z_3 M_2 he_1 hf => ?_)
  refine ex_if (t := 13) (dg dc243 4 rfl) rfl hf (fun _ hf => ?_) (fun _ hf => ?_)
  · refine ex_pu (ls' := [vR 165, vJ v1, vU, vI v3, vU]) (st' := [vJ v1]) (dg dc243 7 rfl) rfl rfl ?_
    refine ex_cI (vs := [vJ v1]) (st' := []) (F := (mo_hoursOf v1 M_2)) (Or.inl ⟨rfl, (dg dc243 8 rfl)⟩) rfl rfl (Or.inl rfl) rfl (fun _ r9 => mo_hoursOf_ok (Z := Z) (d := e9) (by omega)  r9) hf (fun z_6 M_5 he_4 hf => ?_)
    refine ex_pu (ls' := [vR 165, vJ v1, vU, vI v3, vU]) (st' := [vR 165, vI z_6]) (dg dc243 9 rfl) rfl rfl ?_
    refine ex_pu (ls' := [vR 165, vJ v1, vU, vI v3, vU]) (st' := [vJ v1, vR 165, vI z_6]) (dg dc243 10 rfl) rfl rfl ?_
    refine ex_pu (ls' := [vR 165, vJ v1, vU, vI v3, vU]) (st' := [vI v3, vJ v1, vR 165, vI z_6]) (dg dc243 11 rfl) rfl rfl ?_
    refine ex_cI (vs := [vR 165, vJ v1, vI v3]) (st' := [vI z_6]) (F := (mo_hoursBy v1 v3 M_5)) (Or.inr (Or.inl ⟨rfl, (dg dc243 12 rfl)⟩)) rfl rfl (rk1 (LOC.st (Nat.le_of_ble_eq_true rfl) rfl) rfl) rfl (fun _ r9 => mo_hoursBy_ok (Z := Z) (d := e9) (by omega)  r9) hf (fun z_9 M_8 he_7 hf => ?_)
    refine ex_pu (ls' := [vR 165, vJ v1, vU, vI v3, vU]) (st' := [vI (z_6 + z_9)]) (dg dc243 13 rfl) rfl rfl ?_
    refine ex_pu (ls' := [vR 165, vJ v1, vU, vI v3, vI (z_6 + z_9)]) (st' := []) (dg dc243 14 rfl) rfl rfl ?_
    refine ex_pu (ls' := [vR 165, vJ v1, vU, vI v3, vI (z_6 + z_9)]) (st' := [vI (z_6 + z_9)]) (dg dc243 15 rfl) rfl rfl ?_
    refine ex_pu (ls' := [vR 165, vJ v1, vU, vI v3, vI (z_6 + z_9)]) (st' := [vI 30, vI (z_6 + z_9)]) (dg dc243 16 rfl) rfl rfl ?_
    refine ex_icmp (t := 37) (dg dc243 17 rfl) rfl hf (fun _ hf => ?_) (fun _ hf => ?_)
    · refine ex_pu (ls' := [vR 165, vJ v1, vU, vI v3, vI (z_6 + z_9)]) (st' := [vJ v1]) (dg dc243 20 rfl) rfl rfl ?_
      refine ex_pu (ls' := [vR 165, vJ v1, vU, vI v3, vI (z_6 + z_9)]) (st' := [vI 0, vJ v1]) (dg dc243 21 rfl) rfl rfl ?_
      refine ex_pu (ls' := [vR 165, vJ v1, vU, vI v3, vI (z_6 + z_9)]) (st' := [vI 5, vI 0, vJ v1]) (dg dc243 22 rfl) rfl rfl ?_
      refine ex_pu (ls' := [vR 165, vJ v1, vU, vI v3, vI (z_6 + z_9)]) (st' := [vI (z_6 + z_9), vI 5, vI 0, vJ v1]) (dg dc243 23 rfl) rfl rfl ?_
      refine ex_cJ (vs := [vJ v1, vI 0, vI 5, vI (z_6 + z_9)]) (st' := []) (F := (mo_with v1 0 5 (z_6 + z_9) M_8)) (Or.inl ⟨rfl, (dg dc243 24 rfl)⟩) rfl rfl (Or.inl rfl) rfl (fun _ r9 => mo_with_ok (Z := Z) (d := e9) (by omega)  r9) hf (fun z_12 M_11 he_10 hf => ?_)
      refine ex_pu (ls' := [vR 165, vJ v1, vU, vI v3, vI (z_6 + z_9)]) (st' := [vI 5, vJ z_12]) (dg dc243 25 rfl) rfl rfl ?_
      refine ex_pu (ls' := [vR 165, vJ v1, vU, vI v3, vI (z_6 + z_9)]) (st' := [vI 4, vI 5, vJ z_12]) (dg dc243 26 rfl) rfl rfl ?_
      refine ex_pu (ls' := [vR 165, vJ v1, vU, vI v3, vI (z_6 + z_9)]) (st' := [vR 165, vI 4, vI 5, vJ z_12]) (dg dc243 27 rfl) rfl rfl ?_
      refine ex_getI (dg dc243 28 rfl) rfl (LOC.st (Nat.le_of_ble_eq_true rfl) rfl) rfl ?_
      refine ex_cJ (vs := [vJ z_12, vI 5, vI 4, vI (M_11 165 19)]) (st' := []) (F := (mo_with z_12 5 4 (M_11 165 19) M_11)) (Or.inl ⟨rfl, (dg dc243 29 rfl)⟩) rfl rfl (Or.inl rfl) rfl (fun _ r9 => mo_with_ok (Z := Z) (d := e9) (by omega)  r9) hf (fun z_15 M_14 he_13 hf => ?_)
      refine ex_pu (ls' := [vR 165, vJ v1, vU, vI v3, vI (z_6 + z_9)]) (st' := [vI 9, vJ z_15]) (dg dc243 30 rfl) rfl rfl ?_
      refine ex_pu (ls' := [vR 165, vJ v1, vU, vI v3, vI (z_6 + z_9)]) (st' := [vI 5, vI 9, vJ z_15]) (dg dc243 31 rfl) rfl rfl ?_
      refine ex_pu (ls' := [vR 165, vJ v1, vU, vI v3, vI (z_6 + z_9)]) (st' := [vI v3, vI 5, vI 9, vJ z_15]) (dg dc243 32 rfl) rfl rfl ?_
      refine ex_pu (ls' := [vR 165, vJ v1, vU, vI v3, vI (z_6 + z_9)]) (st' := [vI 1, vI v3, vI 5, vI 9, vJ z_15]) (dg dc243 33 rfl) rfl rfl ?_
      refine ex_pu (ls' := [vR 165, vJ v1, vU, vI v3, vI (z_6 + z_9)]) (st' := [vI (v3 + 1), vI 5, vI 9, vJ z_15]) (dg dc243 34 rfl) rfl rfl ?_
      refine ex_cJ (vs := [vJ z_15, vI 9, vI 5, vI (v3 + 1)]) (st' := []) (F := (mo_with z_15 9 5 (v3 + 1) M_14)) (Or.inl ⟨rfl, (dg dc243 35 rfl)⟩) rfl rfl (Or.inl rfl) rfl (fun _ r9 => mo_with_ok (Z := Z) (d := e9) (by omega)  r9) hf (fun z_18 M_17 he_16 hf => ?_)
      exact ex_jre (dg dc243 36 rfl) rfl hf
    · refine ex_ldc2 (dg dc243 18 rfl) rfl ?_
      exact ex_jre (dg dc243 19 rfl) rfl hf
  · refine ex_ldc2 (dg dc243 5 rfl) rfl ?_
    exact ex_jre (dg dc243 6 rfl) rfl hf
