/-! ===== METHODS 0 ===== -/
-- GlassHill$Journey.copyFrom
def il1 : List (Nat × Instr × Nat) := [(0, .aload_n 0, 1), (1, .aload_n 1, 1), (2, .getfield 9, 3), (5, .putfield 9, 3), (8, .aload_n 0, 1), (9, .aload_n 1, 1), (10, .getfield 15, 3), (13, .putfield 15, 3), (16, .aload_n 0, 1), (17, .aload_n 1, 1), (18, .getfield 18, 3), (21, .putfield 18, 3), (24, .aload_n 0, 1), (25, .aload_n 1, 1), (26, .getfield 21, 3), (29, .putfield 21, 3), (32, .aload_n 0, 1), (33, .aload_n 1, 1), (34, .getfield 24, 3), (37, .putfield 24, 3), (40, .aload_n 0, 1), (41, .aload_n 1, 1), (42, .getfield 27, 3), (45, .putfield 27, 3), (48, .aload_n 0, 1), (49, .aload_n 1, 1), (50, .getfield 30, 3), (53, .putfield 30, 3), (56, .aload_n 0, 1), (57, .aload_n 1, 1), (58, .getfield 33, 3), (61, .putfield 33, 3), (64, .aload_n 0, 1), (65, .aload_n 1, 1), (66, .getfield 36, 3), (69, .putfield 36, 3), (72, .aload_n 1, 1), (73, .getfield 39, 3), (76, .aload_n 0, 1), (77, .getfield 39, 3), (80, .invokestatic 61, 3), (83, .aload_n 1, 1), (84, .getfield 43, 3), (87, .aload_n 0, 1), (88, .getfield 43, 3), (91, .invokestatic 61, 3), (94, .aload_n 1, 1), (95, .getfield 46, 3), (98, .aload_n 0, 1), (99, .getfield 46, 3), (102, .invokestatic 61, 3), (105, .aload_n 1, 1), (106, .getfield 49, 3), (109, .aload_n 0, 1), (110, .getfield 49, 3), (113, .invokestatic 61, 3), (116, .aload_n 1, 1), (117, .getfield 52, 3), (120, .aload_n 0, 1), (121, .getfield 52, 3), (124, .invokestatic 61, 3), (127, .return_, 1)]
theorem dc1 : dcs (mC 1) il1 := dc_of (by decide +kernel)
def jny_copyFrom (a : Nat) (b : Nat) (M : MM) : OR :=
  (sM (mU M a 0 (M b 0)) fun M_1 => (sM (mU M_1 a 1 (M_1 b 1)) fun M_3 => (sM (mU M_3 a 2 (M_3 b 2)) fun M_5 => (sM (mU M_5 a 3 (M_5 b 3)) fun M_7 => (sM (mU M_7 a 4 (M_7 b 4)) fun M_9 => (sM (mU M_9 a 5 (M_9 b 5)) fun M_11 => (sM (mU M_11 a 6 (M_11 b 6)) fun M_13 => (sM (mU M_13 a 7 (M_13 b 7)) fun M_15 => (sM (mU M_15 a 8 (M_15 b 8)) fun M_17 => (bV (land_copyRow (b + 1) (a + 1) 10 M_17) fun M_20 => (bV (land_copyRow (b + 2) (a + 2) 7 M_20) fun M_23 => (bV (land_copyRow (b + 3) (a + 3) 10 M_23) fun M_26 => (bV (land_copyRow (b + 4) (a + 4) 10 M_26) fun M_29 => (bV (land_copyRow (b + 5) (a + 5) 10 M_29) fun M_32 => some (rV, M_32)))))))))))))))
set_option maxRecDepth 4000 in
theorem jny_copyFrom_ok {Z : Nat × (Nat → Int)} {d : Nat} (hd : 1 ≤ d) {M : MM} {a : Nat} (ha : isJny a) {b : Nat} (hb : isJny b) {res : AR × MM} (hf : jny_copyFrom a b M = some res) : EX Z d 1 0 (ent 1 [vR a, vR b]) [] M res := by
  obtain ⟨e9, rfl⟩ : ∃ e9, d = e9 + 1 := ⟨d - 1, by omega⟩
  unfold jny_copyFrom at hf
  show EX Z _ 1 0 [vR a, vR b] [] M res
  refine ex_pu (ls' := [vR a, vR b]) (st' := [vR a]) (dg dc1 0 rfl) rfl rfl ?_
  refine ex_pu (ls' := [vR a, vR b]) (st' := [vR b, vR a]) (dg dc1 1 rfl) rfl rfl ?_
  refine ex_getI (dg dc1 2 rfl) rfl (locJny0 hb) rfl ?_
  refine ex_putI (dg dc1 3 rfl) rfl (locJny0 ha) rfl rfl (ne17_Jny ha) ?_
  refine ex_gen hf (fun M_1 hM_2 hf => ?_)
  refine ex_pu (ls' := [vR a, vR b]) (st' := [vR a]) (dg dc1 4 rfl) rfl rfl ?_
  refine ex_pu (ls' := [vR a, vR b]) (st' := [vR b, vR a]) (dg dc1 5 rfl) rfl rfl ?_
  refine ex_getI (dg dc1 6 rfl) rfl (locJny0 hb) rfl ?_
  refine ex_putI (dg dc1 7 rfl) rfl (locJny0 ha) rfl rfl (ne17_Jny ha) ?_
  refine ex_gen hf (fun M_3 hM_4 hf => ?_)
  refine ex_pu (ls' := [vR a, vR b]) (st' := [vR a]) (dg dc1 8 rfl) rfl rfl ?_
  refine ex_pu (ls' := [vR a, vR b]) (st' := [vR b, vR a]) (dg dc1 9 rfl) rfl rfl ?_
  refine ex_getI (dg dc1 10 rfl) rfl (locJny0 hb) rfl ?_
  refine ex_putI (dg dc1 11 rfl) rfl (locJny0 ha) rfl rfl (ne17_Jny ha) ?_
  refine ex_gen hf (fun M_5 hM_6 hf => ?_)
  refine ex_pu (ls' := [vR a, vR b]) (st' := [vR a]) (dg dc1 12 rfl) rfl rfl ?_
  refine ex_pu (ls' := [vR a, vR b]) (st' := [vR b, vR a]) (dg dc1 13 rfl) rfl rfl ?_
  refine ex_getI (dg dc1 14 rfl) rfl (locJny0 hb) rfl ?_
  refine ex_putI (dg dc1 15 rfl) rfl (locJny0 ha) rfl rfl (ne17_Jny ha) ?_
  refine ex_gen hf (fun M_7 hM_8 hf => ?_)
  refine ex_pu (ls' := [vR a, vR b]) (st' := [vR a]) (dg dc1 16 rfl) rfl rfl ?_
  refine ex_pu (ls' := [vR a, vR b]) (st' := [vR b, vR a]) (dg dc1 17 rfl) rfl rfl ?_
  refine ex_getI (dg dc1 18 rfl) rfl (locJny0 hb) rfl ?_
  refine ex_putI (dg dc1 19 rfl) rfl (locJny0 ha) rfl rfl (ne17_Jny ha) ?_
  refine ex_gen hf (fun M_9 hM_10 hf => ?_)
  refine ex_pu (ls' := [vR a, vR b]) (st' := [vR a]) (dg dc1 20 rfl) rfl rfl ?_
  refine ex_pu (ls' := [vR a, vR b]) (st' := [vR b, vR a]) (dg dc1 21 rfl) rfl rfl ?_
  refine ex_getI (dg dc1 22 rfl) rfl (locJny0 hb) rfl ?_
  refine ex_putI (dg dc1 23 rfl) rfl (locJny0 ha) rfl rfl (ne17_Jny ha) ?_
  refine ex_gen hf (fun M_11 hM_12 hf => ?_)
  refine ex_pu (ls' := [vR a, vR b]) (st' := [vR a]) (dg dc1 24 rfl) rfl rfl ?_
  refine ex_pu (ls' := [vR a, vR b]) (st' := [vR b, vR a]) (dg dc1 25 rfl) rfl rfl ?_
  refine ex_getI (dg dc1 26 rfl) rfl (locJny0 hb) rfl ?_
  refine ex_putI (dg dc1 27 rfl) rfl (locJny0 ha) rfl rfl (ne17_Jny ha) ?_
  refine ex_gen hf (fun M_13 hM_14 hf => ?_)
  refine ex_pu (ls' := [vR a, vR b]) (st' := [vR a]) (dg dc1 28 rfl) rfl rfl ?_
  refine ex_pu (ls' := [vR a, vR b]) (st' := [vR b, vR a]) (dg dc1 29 rfl) rfl rfl ?_
  refine ex_getI (dg dc1 30 rfl) rfl (locJny0 hb) rfl ?_
  refine ex_putI (dg dc1 31 rfl) rfl (locJny0 ha) rfl rfl (ne17_Jny ha) ?_
  refine ex_gen hf (fun M_15 hM_16 hf => ?_)
  refine ex_pu (ls' := [vR a, vR b]) (st' := [vR a]) (dg dc1 32 rfl) rfl rfl ?_
  refine ex_pu (ls' := [vR a, vR b]) (st' := [vR b, vR a]) (dg dc1 33 rfl) rfl rfl ?_
  refine ex_getI (dg dc1 34 rfl) rfl (locJny0 hb) rfl ?_
  refine ex_putI (dg dc1 35 rfl) rfl (locJny0 ha) rfl rfl (ne17_Jny ha) ?_
  refine ex_gen hf (fun M_17 hM_18 hf => ?_)
  refine ex_pu (ls' := [vR a, vR b]) (st' := [vR b]) (dg dc1 36 rfl) rfl rfl ?_
  refine ex_getO (dg dc1 37 rfl) rfl (locJny0 hb) rfl ?_
  show EX Z _ 1 _ [vR a, vR b] [vR (b + 1)] _ _
  refine ex_pu (ls' := [vR a, vR b]) (st' := [vR a, vR (b + 1)]) (dg dc1 38 rfl) rfl rfl ?_
  refine ex_getO (dg dc1 39 rfl) rfl (locJny0 ha) rfl ?_
  show EX Z _ 1 _ [vR a, vR b] [vR (a + 1), vR (b + 1)] _ _
  refine ex_cV (vs := [vR (b + 1), vR (a + 1)]) (st' := []) (F := (land_copyRow (b + 1) (a + 1) 10 M_17)) (Or.inl ⟨rfl, (dg dc1 40 rfl)⟩) rfl rfl (Or.inl rfl) rfl (fun _ r9 => land_copyRow_ok (Z := Z) (d := e9) (locJny1 hb) (locJny1 ha) (by omega) rfl r9) hf (fun M_20 he_19 hf => ?_)
  refine ex_pu (ls' := [vR a, vR b]) (st' := [vR b]) (dg dc1 41 rfl) rfl rfl ?_
  refine ex_getO (dg dc1 42 rfl) rfl (locJny0 hb) rfl ?_
  show EX Z _ 1 _ [vR a, vR b] [vR (b + 2)] _ _
  refine ex_pu (ls' := [vR a, vR b]) (st' := [vR a, vR (b + 2)]) (dg dc1 43 rfl) rfl rfl ?_
  refine ex_getO (dg dc1 44 rfl) rfl (locJny0 ha) rfl ?_
  show EX Z _ 1 _ [vR a, vR b] [vR (a + 2), vR (b + 2)] _ _
  refine ex_cV (vs := [vR (b + 2), vR (a + 2)]) (st' := []) (F := (land_copyRow (b + 2) (a + 2) 7 M_20)) (Or.inl ⟨rfl, (dg dc1 45 rfl)⟩) rfl rfl (Or.inl rfl) rfl (fun _ r9 => land_copyRow_ok (Z := Z) (d := e9) (locJny2 hb) (locJny2 ha) (by omega) rfl r9) hf (fun M_23 he_22 hf => ?_)
  refine ex_pu (ls' := [vR a, vR b]) (st' := [vR b]) (dg dc1 46 rfl) rfl rfl ?_
  refine ex_getO (dg dc1 47 rfl) rfl (locJny0 hb) rfl ?_
  show EX Z _ 1 _ [vR a, vR b] [vR (b + 3)] _ _
  refine ex_pu (ls' := [vR a, vR b]) (st' := [vR a, vR (b + 3)]) (dg dc1 48 rfl) rfl rfl ?_
  refine ex_getO (dg dc1 49 rfl) rfl (locJny0 ha) rfl ?_
  show EX Z _ 1 _ [vR a, vR b] [vR (a + 3), vR (b + 3)] _ _
  refine ex_cV (vs := [vR (b + 3), vR (a + 3)]) (st' := []) (F := (land_copyRow (b + 3) (a + 3) 10 M_23)) (Or.inl ⟨rfl, (dg dc1 50 rfl)⟩) rfl rfl (Or.inl rfl) rfl (fun _ r9 => land_copyRow_ok (Z := Z) (d := e9) (locJny3 hb) (locJny3 ha) (by omega) rfl r9) hf (fun M_26 he_25 hf => ?_)
  refine ex_pu (ls' := [vR a, vR b]) (st' := [vR b]) (dg dc1 51 rfl) rfl rfl ?_
  refine ex_getO (dg dc1 52 rfl) rfl (locJny0 hb) rfl ?_
  show EX Z _ 1 _ [vR a, vR b] [vR (b + 4)] _ _
  refine ex_pu (ls' := [vR a, vR b]) (st' := [vR a, vR (b + 4)]) (dg dc1 53 rfl) rfl rfl ?_
  refine ex_getO (dg dc1 54 rfl) rfl (locJny0 ha) rfl ?_
  show EX Z _ 1 _ [vR a, vR b] [vR (a + 4), vR (b + 4)] _ _
  refine ex_cV (vs := [vR (b + 4), vR (a + 4)]) (st' := []) (F := (land_copyRow (b + 4) (a + 4) 10 M_26)) (Or.inl ⟨rfl, (dg dc1 55 rfl)⟩) rfl rfl (Or.inl rfl) rfl (fun _ r9 => land_copyRow_ok (Z := Z) (d := e9) (locJny4 hb) (locJny4 ha) (by omega) rfl r9) hf (fun M_29 he_28 hf => ?_)
  refine ex_pu (ls' := [vR a, vR b]) (st' := [vR b]) (dg dc1 56 rfl) rfl rfl ?_
  refine ex_getO (dg dc1 57 rfl) rfl (locJny0 hb) rfl ?_
  show EX Z _ 1 _ [vR a, vR b] [vR (b + 5)] _ _
  refine ex_pu (ls' := [vR a, vR b]) (st' := [vR a, vR (b + 5)]) (dg dc1 58 rfl) rfl rfl ?_
  refine ex_getO (dg dc1 59 rfl) rfl (locJny0 ha) rfl ?_
  show EX Z _ 1 _ [vR a, vR b] [vR (a + 5), vR (b + 5)] _ _
  refine ex_cV (vs := [vR (b + 5), vR (a + 5)]) (st' := []) (F := (land_copyRow (b + 5) (a + 5) 10 M_29)) (Or.inl ⟨rfl, (dg dc1 60 rfl)⟩) rfl rfl (Or.inl rfl) rfl (fun _ r9 => land_copyRow_ok (Z := Z) (d := e9) (locJny5 hb) (locJny5 ha) (by omega) rfl r9) hf (fun M_32 he_31 hf => ?_)
  exact ex_vre (dg dc1 61 rfl) rfl hf
-- GlassHill$Journey.letPass
def il4 : List (Nat × Instr × Nat) := [(0, .aload_n 0, 1), (1, .dup, 1), (2, .getfield 30, 3), (5, .iconst 1, 1), (6, .iload_n 1, 1), (7, .ishl, 1), (8, .ior, 1), (9, .putfield 30, 3), (12, .aload_n 0, 1), (13, .getfield 36, 3), (16, .bipush 10, 2), (18, .if_icmp .ge 46, 3), (21, .aload_n 0, 1), (22, .getfield 46, 3), (25, .aload_n 0, 1), (26, .getfield 36, 3), (29, .iload_n 1, 1), (30, .iastore, 1), (31, .aload_n 0, 1), (32, .getfield 49, 3), (35, .aload_n 0, 1), (36, .getfield 36, 3), (39, .iload_n 2, 1), (40, .iastore, 1), (41, .aload_n 0, 1), (42, .getfield 52, 3), (45, .aload_n 0, 1), (46, .getfield 36, 3), (49, .aload_n 0, 1), (50, .getfield 15, 3), (53, .iastore, 1), (54, .aload_n 0, 1), (55, .dup, 1), (56, .getfield 36, 3), (59, .iconst 1, 1), (60, .iadd, 1), (61, .putfield 36, 3), (64, .return_, 1)]
theorem dc4 : dcs (mC 4) il4 := dc_of (by decide +kernel)
def jny_letPass (a : Nat) (v1 : Int) (v2 : Int) (M : MM) : OR :=
  (sM (mU M a 6 (iOr (M a 6) (iShl 1 v1))) fun M_1 => (bif cmpB .ge (M_1 a 8) 10 then some (rV, M_1) else (bif inB (M_1 a 8) 10 then (sM (mU M_1 (a + 3) ((M_1 a 8)).toNat v1) fun M_3 => (bif inB (M_3 a 8) 10 then (sM (mU M_3 (a + 4) ((M_3 a 8)).toNat v2) fun M_5 => (bif inB (M_5 a 8) 10 then (sM (mU M_5 (a + 5) ((M_5 a 8)).toNat (M_5 a 1)) fun M_7 => (sM (mU M_7 a 8 ((M_7 a 8) + 1)) fun M_9 => some (rV, M_9))) else none)) else none)) else none)))
set_option maxRecDepth 4000 in
theorem jny_letPass_ok {Z : Nat × (Nat → Int)} {d : Nat} (hd : 0 ≤ d) {M : MM} {a : Nat} (ha : isJny a) {v1 v2 : Int} {res : AR × MM} (hf : jny_letPass a v1 v2 M = some res) : EX Z d 4 0 (ent 4 [vR a, vI v1, vI v2]) [] M res := by
  unfold jny_letPass at hf
  show EX Z _ 4 0 [vR a, vI v1, vI v2] [] M res
  refine ex_pu (ls' := [vR a, vI v1, vI v2]) (st' := [vR a]) (dg dc4 0 rfl) rfl rfl ?_
  refine ex_pu (ls' := [vR a, vI v1, vI v2]) (st' := [vR a, vR a]) (dg dc4 1 rfl) rfl rfl ?_
  refine ex_getI (dg dc4 2 rfl) rfl (locJny0 ha) rfl ?_
  refine ex_pu (ls' := [vR a, vI v1, vI v2]) (st' := [vI 1, vI (M a 6), vR a]) (dg dc4 3 rfl) rfl rfl ?_
  refine ex_pu (ls' := [vR a, vI v1, vI v2]) (st' := [vI v1, vI 1, vI (M a 6), vR a]) (dg dc4 4 rfl) rfl rfl ?_
  refine ex_pu (ls' := [vR a, vI v1, vI v2]) (st' := [vI (iShl 1 v1), vI (M a 6), vR a]) (dg dc4 5 rfl) rfl rfl ?_
  refine ex_pu (ls' := [vR a, vI v1, vI v2]) (st' := [vI (iOr (M a 6) (iShl 1 v1)), vR a]) (dg dc4 6 rfl) rfl rfl ?_
  refine ex_putI (dg dc4 7 rfl) rfl (locJny0 ha) rfl rfl (ne17_Jny ha) ?_
  refine ex_gen hf (fun M_1 hM_2 hf => ?_)
  refine ex_pu (ls' := [vR a, vI v1, vI v2]) (st' := [vR a]) (dg dc4 8 rfl) rfl rfl ?_
  refine ex_getI (dg dc4 9 rfl) rfl (locJny0 ha) rfl ?_
  refine ex_pu (ls' := [vR a, vI v1, vI v2]) (st' := [vI 10, vI (M_1 a 8)]) (dg dc4 10 rfl) rfl rfl ?_
  refine ex_icmp (t := 64) (dg dc4 11 rfl) rfl hf (fun _ hf => ?_) (fun _ hf => ?_)
  · exact ex_vre (dg dc4 37 rfl) rfl hf
  · refine ex_pu (ls' := [vR a, vI v1, vI v2]) (st' := [vR a]) (dg dc4 12 rfl) rfl rfl ?_
    refine ex_getO (dg dc4 13 rfl) rfl (locJny0 ha) rfl ?_
    show EX Z _ 4 _ [vR a, vI v1, vI v2] [vR (a + 3)] _ _
    refine ex_pu (ls' := [vR a, vI v1, vI v2]) (st' := [vR a, vR (a + 3)]) (dg dc4 14 rfl) rfl rfl ?_
    refine ex_getI (dg dc4 15 rfl) rfl (locJny0 ha) rfl ?_
    refine ex_pu (ls' := [vR a, vI v1, vI v2]) (st' := [vI v1, vI (M_1 a 8), vR (a + 3)]) (dg dc4 16 rfl) rfl rfl ?_
    refine ex_iast (dg dc4 17 rfl) (locJny3 ha) rfl (ne17_Jny_3 ha) hf (fun _ hf => ?_)
    refine ex_gen hf (fun M_3 hM_4 hf => ?_)
    refine ex_pu (ls' := [vR a, vI v1, vI v2]) (st' := [vR a]) (dg dc4 18 rfl) rfl rfl ?_
    refine ex_getO (dg dc4 19 rfl) rfl (locJny0 ha) rfl ?_
    show EX Z _ 4 _ [vR a, vI v1, vI v2] [vR (a + 4)] _ _
    refine ex_pu (ls' := [vR a, vI v1, vI v2]) (st' := [vR a, vR (a + 4)]) (dg dc4 20 rfl) rfl rfl ?_
    refine ex_getI (dg dc4 21 rfl) rfl (locJny0 ha) rfl ?_
    refine ex_pu (ls' := [vR a, vI v1, vI v2]) (st' := [vI v2, vI (M_3 a 8), vR (a + 4)]) (dg dc4 22 rfl) rfl rfl ?_
    refine ex_iast (dg dc4 23 rfl) (locJny4 ha) rfl (ne17_Jny_4 ha) hf (fun _ hf => ?_)
    refine ex_gen hf (fun M_5 hM_6 hf => ?_)
    refine ex_pu (ls' := [vR a, vI v1, vI v2]) (st' := [vR a]) (dg dc4 24 rfl) rfl rfl ?_
    refine ex_getO (dg dc4 25 rfl) rfl (locJny0 ha) rfl ?_
    show EX Z _ 4 _ [vR a, vI v1, vI v2] [vR (a + 5)] _ _
    refine ex_pu (ls' := [vR a, vI v1, vI v2]) (st' := [vR a, vR (a + 5)]) (dg dc4 26 rfl) rfl rfl ?_
    refine ex_getI (dg dc4 27 rfl) rfl (locJny0 ha) rfl ?_
    refine ex_pu (ls' := [vR a, vI v1, vI v2]) (st' := [vR a, vI (M_5 a 8), vR (a + 5)]) (dg dc4 28 rfl) rfl rfl ?_
    refine ex_getI (dg dc4 29 rfl) rfl (locJny0 ha) rfl ?_
    refine ex_iast (dg dc4 30 rfl) (locJny5 ha) rfl (ne17_Jny_5 ha) hf (fun _ hf => ?_)
    refine ex_gen hf (fun M_7 hM_8 hf => ?_)
    refine ex_pu (ls' := [vR a, vI v1, vI v2]) (st' := [vR a]) (dg dc4 31 rfl) rfl rfl ?_
    refine ex_pu (ls' := [vR a, vI v1, vI v2]) (st' := [vR a, vR a]) (dg dc4 32 rfl) rfl rfl ?_
    refine ex_getI (dg dc4 33 rfl) rfl (locJny0 ha) rfl ?_
    refine ex_pu (ls' := [vR a, vI v1, vI v2]) (st' := [vI 1, vI (M_7 a 8), vR a]) (dg dc4 34 rfl) rfl rfl ?_
    refine ex_pu (ls' := [vR a, vI v1, vI v2]) (st' := [vI ((M_7 a 8) + 1), vR a]) (dg dc4 35 rfl) rfl rfl ?_
    refine ex_putI (dg dc4 36 rfl) rfl (locJny0 ha) rfl rfl (ne17_Jny ha) ?_
    refine ex_gen hf (fun M_9 hM_10 hf => ?_)
    exact ex_vre (dg dc4 37 rfl) rfl hf
-- GlassHill$Journey.lose
def il5 : List (Nat × Instr × Nat) := [(0, .aload_n 0, 1), (1, .dup, 1), (2, .getfield 21, 3), (5, .iconst 1, 1), (6, .iload_n 1, 1), (7, .ishl, 1), (8, .iconst (-1), 1), (9, .ixor, 1), (10, .iand, 1), (11, .putfield 21, 3), (14, .aload_n 0, 1), (15, .dup, 1), (16, .getfield 24, 3), (19, .iconst 1, 1), (20, .iload_n 1, 1), (21, .ishl, 1), (22, .ior, 1), (23, .putfield 24, 3), (26, .return_, 1)]
theorem dc5 : dcs (mC 5) il5 := dc_of (by decide +kernel)
def jny_lose (a : Nat) (v1 : Int) (M : MM) : OR :=
  (sM (mU M a 3 (iAnd (M a 3) (iXor (iShl 1 v1) (-1)))) fun M_1 => (sM (mU M_1 a 4 (iOr (M_1 a 4) (iShl 1 v1))) fun M_3 => some (rV, M_3)))
set_option maxRecDepth 4000 in
theorem jny_lose_ok {Z : Nat × (Nat → Int)} {d : Nat} (hd : 0 ≤ d) {M : MM} {a : Nat} (ha : isJny a) {v1 : Int} {res : AR × MM} (hf : jny_lose a v1 M = some res) : EX Z d 5 0 (ent 5 [vR a, vI v1]) [] M res := by
  unfold jny_lose at hf
  show EX Z _ 5 0 [vR a, vI v1] [] M res
  refine ex_pu (ls' := [vR a, vI v1]) (st' := [vR a]) (dg dc5 0 rfl) rfl rfl ?_
  refine ex_pu (ls' := [vR a, vI v1]) (st' := [vR a, vR a]) (dg dc5 1 rfl) rfl rfl ?_
  refine ex_getI (dg dc5 2 rfl) rfl (locJny0 ha) rfl ?_
  refine ex_pu (ls' := [vR a, vI v1]) (st' := [vI 1, vI (M a 3), vR a]) (dg dc5 3 rfl) rfl rfl ?_
  refine ex_pu (ls' := [vR a, vI v1]) (st' := [vI v1, vI 1, vI (M a 3), vR a]) (dg dc5 4 rfl) rfl rfl ?_
  refine ex_pu (ls' := [vR a, vI v1]) (st' := [vI (iShl 1 v1), vI (M a 3), vR a]) (dg dc5 5 rfl) rfl rfl ?_
  refine ex_pu (ls' := [vR a, vI v1]) (st' := [vI (-1), vI (iShl 1 v1), vI (M a 3), vR a]) (dg dc5 6 rfl) rfl rfl ?_
  refine ex_pu (ls' := [vR a, vI v1]) (st' := [vI (iXor (iShl 1 v1) (-1)), vI (M a 3), vR a]) (dg dc5 7 rfl) rfl rfl ?_
  refine ex_pu (ls' := [vR a, vI v1]) (st' := [vI (iAnd (M a 3) (iXor (iShl 1 v1) (-1))), vR a]) (dg dc5 8 rfl) rfl rfl ?_
  refine ex_putI (dg dc5 9 rfl) rfl (locJny0 ha) rfl rfl (ne17_Jny ha) ?_
  refine ex_gen hf (fun M_1 hM_2 hf => ?_)
  refine ex_pu (ls' := [vR a, vI v1]) (st' := [vR a]) (dg dc5 10 rfl) rfl rfl ?_
  refine ex_pu (ls' := [vR a, vI v1]) (st' := [vR a, vR a]) (dg dc5 11 rfl) rfl rfl ?_
  refine ex_getI (dg dc5 12 rfl) rfl (locJny0 ha) rfl ?_
  refine ex_pu (ls' := [vR a, vI v1]) (st' := [vI 1, vI (M_1 a 4), vR a]) (dg dc5 13 rfl) rfl rfl ?_
  refine ex_pu (ls' := [vR a, vI v1]) (st' := [vI v1, vI 1, vI (M_1 a 4), vR a]) (dg dc5 14 rfl) rfl rfl ?_
  refine ex_pu (ls' := [vR a, vI v1]) (st' := [vI (iShl 1 v1), vI (M_1 a 4), vR a]) (dg dc5 15 rfl) rfl rfl ?_
  refine ex_pu (ls' := [vR a, vI v1]) (st' := [vI (iOr (M_1 a 4) (iShl 1 v1)), vR a]) (dg dc5 16 rfl) rfl rfl ?_
  refine ex_putI (dg dc5 17 rfl) rfl (locJny0 ha) rfl rfl (ne17_Jny ha) ?_
  refine ex_gen hf (fun M_3 hM_4 hf => ?_)
  exact ex_vre (dg dc5 18 rfl) rfl hf
-- GlassHill$Land.copyFrom
def il8 : List (Nat × Instr × Nat) := [(0, .aload_n 0, 1), (1, .aload_n 1, 1), (2, .getfield 9, 3), (5, .putfield 9, 3), (8, .aload_n 0, 1), (9, .aload_n 1, 1), (10, .getfield 15, 3), (13, .putfield 15, 3), (16, .aload_n 0, 1), (17, .aload_n 1, 1), (18, .getfield 18, 3), (21, .putfield 18, 3), (24, .aload_n 0, 1), (25, .aload_n 1, 1), (26, .getfield 21, 3), (29, .putfield 21, 3), (32, .aload_n 0, 1), (33, .aload_n 1, 1), (34, .getfield 24, 3), (37, .putfield 24, 3), (40, .aload_n 0, 1), (41, .aload_n 1, 1), (42, .getfield 27, 3), (45, .putfield 27, 3), (48, .aload_n 0, 1), (49, .aload_n 1, 1), (50, .getfield 30, 3), (53, .putfield 30, 3), (56, .aload_n 1, 1), (57, .getfield 33, 3), (60, .aload_n 0, 1), (61, .getfield 33, 3), (64, .invokestatic 73, 3), (67, .aload_n 1, 1), (68, .getfield 37, 3), (71, .aload_n 0, 1), (72, .getfield 37, 3), (75, .invokestatic 73, 3), (78, .aload_n 1, 1), (79, .getfield 40, 3), (82, .aload_n 0, 1), (83, .getfield 40, 3), (86, .invokestatic 73, 3), (89, .aload_n 1, 1), (90, .getfield 43, 3), (93, .aload_n 0, 1), (94, .getfield 43, 3), (97, .invokestatic 73, 3), (100, .aload_n 1, 1), (101, .getfield 46, 3), (104, .aload_n 0, 1), (105, .getfield 46, 3), (108, .invokestatic 73, 3), (111, .aload_n 1, 1), (112, .getfield 49, 3), (115, .aload_n 0, 1), (116, .getfield 49, 3), (119, .invokestatic 73, 3), (122, .aload_n 1, 1), (123, .getfield 52, 3), (126, .aload_n 0, 1), (127, .getfield 52, 3), (130, .invokestatic 73, 3), (133, .aload_n 1, 1), (134, .getfield 55, 3), (137, .aload_n 0, 1), (138, .getfield 55, 3), (141, .invokestatic 73, 3), (144, .aload_n 1, 1), (145, .getfield 58, 3), (148, .aload_n 0, 1), (149, .getfield 58, 3), (152, .invokestatic 73, 3), (155, .aload_n 1, 1), (156, .getfield 61, 3), (159, .aload_n 0, 1), (160, .getfield 61, 3), (163, .invokestatic 73, 3), (166, .aload_n 1, 1), (167, .getfield 64, 3), (170, .aload_n 0, 1), (171, .getfield 64, 3), (174, .invokestatic 73, 3), (177, .aload_n 1, 1), (178, .getfield 67, 3), (181, .aload_n 0, 1), (182, .getfield 67, 3), (185, .invokestatic 73, 3), (188, .aload_n 1, 1), (189, .getfield 70, 3), (192, .aload_n 0, 1), (193, .getfield 70, 3), (196, .invokestatic 73, 3), (199, .return_, 1)]
theorem dc8 : dcs (mC 8) il8 := dc_of (by decide +kernel)
def land_copyFrom (a : Nat) (b : Nat) (M : MM) : OR :=
  (sM (mU M a 0 (M b 0)) fun M_1 => (sM (mU M_1 a 1 (M_1 b 1)) fun M_3 => (sM (mU M_3 a 2 (M_3 b 2)) fun M_5 => (sM (mU M_5 a 3 (M_5 b 3)) fun M_7 => (sM (mU M_7 a 4 (M_7 b 4)) fun M_9 => (sM (mU M_9 a 5 (M_9 b 5)) fun M_11 => (sM (mU M_11 a 6 (M_11 b 6)) fun M_13 => (bV (land_copyRow (b + 1) (a + 1) 17 M_13) fun M_16 => (bV (land_copyRow (b + 2) (a + 2) 17 M_16) fun M_19 => (bV (land_copyRow (b + 3) (a + 3) 10 M_19) fun M_22 => (bV (land_copyRow (b + 4) (a + 4) 10 M_22) fun M_25 => (bV (land_copyRow (b + 5) (a + 5) 10 M_25) fun M_28 => (bV (land_copyRow (b + 6) (a + 6) 10 M_28) fun M_31 => (bV (land_copyRow (b + 7) (a + 7) 10 M_31) fun M_34 => (bV (land_copyRow (b + 8) (a + 8) 32 M_34) fun M_37 => (bV (land_copyRow (b + 9) (a + 9) 16 M_37) fun M_40 => (bV (land_copyRow (b + 10) (a + 10) 16 M_40) fun M_43 => (bV (land_copyRow (b + 11) (a + 11) 7 M_43) fun M_46 => (bV (land_copyRow (b + 12) (a + 12) 7 M_46) fun M_49 => (bV (land_copyRow (b + 13) (a + 13) 7 M_49) fun M_52 => some (rV, M_52)))))))))))))))))))))
set_option maxRecDepth 4000 in
theorem land_copyFrom_ok {Z : Nat × (Nat → Int)} {d : Nat} (hd : 1 ≤ d) {M : MM} {a : Nat} (ha : isLand a) {b : Nat} (hb : isLand b) {res : AR × MM} (hf : land_copyFrom a b M = some res) : EX Z d 8 0 (ent 8 [vR a, vR b]) [] M res := by
  obtain ⟨e9, rfl⟩ : ∃ e9, d = e9 + 1 := ⟨d - 1, by omega⟩
  unfold land_copyFrom at hf
  show EX Z _ 8 0 [vR a, vR b] [] M res
  refine ex_pu (ls' := [vR a, vR b]) (st' := [vR a]) (dg dc8 0 rfl) rfl rfl ?_
  refine ex_pu (ls' := [vR a, vR b]) (st' := [vR b, vR a]) (dg dc8 1 rfl) rfl rfl ?_
  refine ex_getI (dg dc8 2 rfl) rfl (locLand0 hb) rfl ?_
  refine ex_putI (dg dc8 3 rfl) rfl (locLand0 ha) rfl rfl (ne17_Land ha) ?_
  refine ex_gen hf (fun M_1 hM_2 hf => ?_)
  refine ex_pu (ls' := [vR a, vR b]) (st' := [vR a]) (dg dc8 4 rfl) rfl rfl ?_
  refine ex_pu (ls' := [vR a, vR b]) (st' := [vR b, vR a]) (dg dc8 5 rfl) rfl rfl ?_
  refine ex_getI (dg dc8 6 rfl) rfl (locLand0 hb) rfl ?_
  refine ex_putI (dg dc8 7 rfl) rfl (locLand0 ha) rfl rfl (ne17_Land ha) ?_
  refine ex_gen hf (fun M_3 hM_4 hf => ?_)
  refine ex_pu (ls' := [vR a, vR b]) (st' := [vR a]) (dg dc8 8 rfl) rfl rfl ?_
  refine ex_pu (ls' := [vR a, vR b]) (st' := [vR b, vR a]) (dg dc8 9 rfl) rfl rfl ?_
  refine ex_getI (dg dc8 10 rfl) rfl (locLand0 hb) rfl ?_
  refine ex_putI (dg dc8 11 rfl) rfl (locLand0 ha) rfl rfl (ne17_Land ha) ?_
  refine ex_gen hf (fun M_5 hM_6 hf => ?_)
  refine ex_pu (ls' := [vR a, vR b]) (st' := [vR a]) (dg dc8 12 rfl) rfl rfl ?_
  refine ex_pu (ls' := [vR a, vR b]) (st' := [vR b, vR a]) (dg dc8 13 rfl) rfl rfl ?_
  refine ex_getI (dg dc8 14 rfl) rfl (locLand0 hb) rfl ?_
  refine ex_putI (dg dc8 15 rfl) rfl (locLand0 ha) rfl rfl (ne17_Land ha) ?_
  refine ex_gen hf (fun M_7 hM_8 hf => ?_)
  refine ex_pu (ls' := [vR a, vR b]) (st' := [vR a]) (dg dc8 16 rfl) rfl rfl ?_
  refine ex_pu (ls' := [vR a, vR b]) (st' := [vR b, vR a]) (dg dc8 17 rfl) rfl rfl ?_
  refine ex_getI (dg dc8 18 rfl) rfl (locLand0 hb) rfl ?_
  refine ex_putI (dg dc8 19 rfl) rfl (locLand0 ha) rfl rfl (ne17_Land ha) ?_
  refine ex_gen hf (fun M_9 hM_10 hf => ?_)
  refine ex_pu (ls' := [vR a, vR b]) (st' := [vR a]) (dg dc8 20 rfl) rfl rfl ?_
  refine ex_pu (ls' := [vR a, vR b]) (st' := [vR b, vR a]) (dg dc8 21 rfl) rfl rfl ?_
  refine ex_getI (dg dc8 22 rfl) rfl (locLand0 hb) rfl ?_
  refine ex_putI (dg dc8 23 rfl) rfl (locLand0 ha) rfl rfl (ne17_Land ha) ?_
  refine ex_gen hf (fun M_11 hM_12 hf => ?_)
  refine ex_pu (ls' := [vR a, vR b]) (st' := [vR a]) (dg dc8 24 rfl) rfl rfl ?_
  refine ex_pu (ls' := [vR a, vR b]) (st' := [vR b, vR a]) (dg dc8 25 rfl) rfl rfl ?_
  refine ex_getI (dg dc8 26 rfl) rfl (locLand0 hb) rfl ?_
  refine ex_putI (dg dc8 27 rfl) rfl (locLand0 ha) rfl rfl (ne17_Land ha) ?_
  refine ex_gen hf (fun M_13 hM_14 hf => ?_)
  refine ex_pu (ls' := [vR a, vR b]) (st' := [vR b]) (dg dc8 28 rfl) rfl rfl ?_
  refine ex_getO (dg dc8 29 rfl) rfl (locLand0 hb) rfl ?_
  show EX Z _ 8 _ [vR a, vR b] [vR (b + 1)] _ _
  refine ex_pu (ls' := [vR a, vR b]) (st' := [vR a, vR (b + 1)]) (dg dc8 30 rfl) rfl rfl ?_
  refine ex_getO (dg dc8 31 rfl) rfl (locLand0 ha) rfl ?_
  show EX Z _ 8 _ [vR a, vR b] [vR (a + 1), vR (b + 1)] _ _
  refine ex_cV (vs := [vR (b + 1), vR (a + 1)]) (st' := []) (F := (land_copyRow (b + 1) (a + 1) 17 M_13)) (Or.inl ⟨rfl, (dg dc8 32 rfl)⟩) rfl rfl (Or.inl rfl) rfl (fun _ r9 => land_copyRow_ok (Z := Z) (d := e9) (locLand1 hb) (locLand1 ha) (by omega) rfl r9) hf (fun M_16 he_15 hf => ?_)
  refine ex_pu (ls' := [vR a, vR b]) (st' := [vR b]) (dg dc8 33 rfl) rfl rfl ?_
  refine ex_getO (dg dc8 34 rfl) rfl (locLand0 hb) rfl ?_
  show EX Z _ 8 _ [vR a, vR b] [vR (b + 2)] _ _
  refine ex_pu (ls' := [vR a, vR b]) (st' := [vR a, vR (b + 2)]) (dg dc8 35 rfl) rfl rfl ?_
  refine ex_getO (dg dc8 36 rfl) rfl (locLand0 ha) rfl ?_
  show EX Z _ 8 _ [vR a, vR b] [vR (a + 2), vR (b + 2)] _ _
  refine ex_cV (vs := [vR (b + 2), vR (a + 2)]) (st' := []) (F := (land_copyRow (b + 2) (a + 2) 17 M_16)) (Or.inl ⟨rfl, (dg dc8 37 rfl)⟩) rfl rfl (Or.inl rfl) rfl (fun _ r9 => land_copyRow_ok (Z := Z) (d := e9) (locLand2 hb) (locLand2 ha) (by omega) rfl r9) hf (fun M_19 he_18 hf => ?_)
  refine ex_pu (ls' := [vR a, vR b]) (st' := [vR b]) (dg dc8 38 rfl) rfl rfl ?_
  refine ex_getO (dg dc8 39 rfl) rfl (locLand0 hb) rfl ?_
  show EX Z _ 8 _ [vR a, vR b] [vR (b + 3)] _ _
  refine ex_pu (ls' := [vR a, vR b]) (st' := [vR a, vR (b + 3)]) (dg dc8 40 rfl) rfl rfl ?_
  refine ex_getO (dg dc8 41 rfl) rfl (locLand0 ha) rfl ?_
  show EX Z _ 8 _ [vR a, vR b] [vR (a + 3), vR (b + 3)] _ _
  refine ex_cV (vs := [vR (b + 3), vR (a + 3)]) (st' := []) (F := (land_copyRow (b + 3) (a + 3) 10 M_19)) (Or.inl ⟨rfl, (dg dc8 42 rfl)⟩) rfl rfl (Or.inl rfl) rfl (fun _ r9 => land_copyRow_ok (Z := Z) (d := e9) (locLand3 hb) (locLand3 ha) (by omega) rfl r9) hf (fun M_22 he_21 hf => ?_)
  refine ex_pu (ls' := [vR a, vR b]) (st' := [vR b]) (dg dc8 43 rfl) rfl rfl ?_
  refine ex_getO (dg dc8 44 rfl) rfl (locLand0 hb) rfl ?_
  show EX Z _ 8 _ [vR a, vR b] [vR (b + 4)] _ _
  refine ex_pu (ls' := [vR a, vR b]) (st' := [vR a, vR (b + 4)]) (dg dc8 45 rfl) rfl rfl ?_
  refine ex_getO (dg dc8 46 rfl) rfl (locLand0 ha) rfl ?_
  show EX Z _ 8 _ [vR a, vR b] [vR (a + 4), vR (b + 4)] _ _
  refine ex_cV (vs := [vR (b + 4), vR (a + 4)]) (st' := []) (F := (land_copyRow (b + 4) (a + 4) 10 M_22)) (Or.inl ⟨rfl, (dg dc8 47 rfl)⟩) rfl rfl (Or.inl rfl) rfl (fun _ r9 => land_copyRow_ok (Z := Z) (d := e9) (locLand4 hb) (locLand4 ha) (by omega) rfl r9) hf (fun M_25 he_24 hf => ?_)
  refine ex_pu (ls' := [vR a, vR b]) (st' := [vR b]) (dg dc8 48 rfl) rfl rfl ?_
  refine ex_getO (dg dc8 49 rfl) rfl (locLand0 hb) rfl ?_
  show EX Z _ 8 _ [vR a, vR b] [vR (b + 5)] _ _
  refine ex_pu (ls' := [vR a, vR b]) (st' := [vR a, vR (b + 5)]) (dg dc8 50 rfl) rfl rfl ?_
  refine ex_getO (dg dc8 51 rfl) rfl (locLand0 ha) rfl ?_
  show EX Z _ 8 _ [vR a, vR b] [vR (a + 5), vR (b + 5)] _ _
  refine ex_cV (vs := [vR (b + 5), vR (a + 5)]) (st' := []) (F := (land_copyRow (b + 5) (a + 5) 10 M_25)) (Or.inl ⟨rfl, (dg dc8 52 rfl)⟩) rfl rfl (Or.inl rfl) rfl (fun _ r9 => land_copyRow_ok (Z := Z) (d := e9) (locLand5 hb) (locLand5 ha) (by omega) rfl r9) hf (fun M_28 he_27 hf => ?_)
  refine ex_pu (ls' := [vR a, vR b]) (st' := [vR b]) (dg dc8 53 rfl) rfl rfl ?_
  refine ex_getO (dg dc8 54 rfl) rfl (locLand0 hb) rfl ?_
  show EX Z _ 8 _ [vR a, vR b] [vR (b + 6)] _ _
  refine ex_pu (ls' := [vR a, vR b]) (st' := [vR a, vR (b + 6)]) (dg dc8 55 rfl) rfl rfl ?_
  refine ex_getO (dg dc8 56 rfl) rfl (locLand0 ha) rfl ?_
  show EX Z _ 8 _ [vR a, vR b] [vR (a + 6), vR (b + 6)] _ _
  refine ex_cV (vs := [vR (b + 6), vR (a + 6)]) (st' := []) (F := (land_copyRow (b + 6) (a + 6) 10 M_28)) (Or.inl ⟨rfl, (dg dc8 57 rfl)⟩) rfl rfl (Or.inl rfl) rfl (fun _ r9 => land_copyRow_ok (Z := Z) (d := e9) (locLand6 hb) (locLand6 ha) (by omega) rfl r9) hf (fun M_31 he_30 hf => ?_)
  refine ex_pu (ls' := [vR a, vR b]) (st' := [vR b]) (dg dc8 58 rfl) rfl rfl ?_
  refine ex_getO (dg dc8 59 rfl) rfl (locLand0 hb) rfl ?_
  show EX Z _ 8 _ [vR a, vR b] [vR (b + 7)] _ _
  refine ex_pu (ls' := [vR a, vR b]) (st' := [vR a, vR (b + 7)]) (dg dc8 60 rfl) rfl rfl ?_
  refine ex_getO (dg dc8 61 rfl) rfl (locLand0 ha) rfl ?_
  show EX Z _ 8 _ [vR a, vR b] [vR (a + 7), vR (b + 7)] _ _
  refine ex_cV (vs := [vR (b + 7), vR (a + 7)]) (st' := []) (F := (land_copyRow (b + 7) (a + 7) 10 M_31)) (Or.inl ⟨rfl, (dg dc8 62 rfl)⟩) rfl rfl (Or.inl rfl) rfl (fun _ r9 => land_copyRow_ok (Z := Z) (d := e9) (locLand7 hb) (locLand7 ha) (by omega) rfl r9) hf (fun M_34 he_33 hf => ?_)
  refine ex_pu (ls' := [vR a, vR b]) (st' := [vR b]) (dg dc8 63 rfl) rfl rfl ?_
  refine ex_getO (dg dc8 64 rfl) rfl (locLand0 hb) rfl ?_
  show EX Z _ 8 _ [vR a, vR b] [vR (b + 8)] _ _
  refine ex_pu (ls' := [vR a, vR b]) (st' := [vR a, vR (b + 8)]) (dg dc8 65 rfl) rfl rfl ?_
  refine ex_getO (dg dc8 66 rfl) rfl (locLand0 ha) rfl ?_
  show EX Z _ 8 _ [vR a, vR b] [vR (a + 8), vR (b + 8)] _ _
  refine ex_cV (vs := [vR (b + 8), vR (a + 8)]) (st' := []) (F := (land_copyRow (b + 8) (a + 8) 32 M_34)) (Or.inl ⟨rfl, (dg dc8 67 rfl)⟩) rfl rfl (Or.inl rfl) rfl (fun _ r9 => land_copyRow_ok (Z := Z) (d := e9) (locLand8 hb) (locLand8 ha) (by omega) rfl r9) hf (fun M_37 he_36 hf => ?_)
  refine ex_pu (ls' := [vR a, vR b]) (st' := [vR b]) (dg dc8 68 rfl) rfl rfl ?_
  refine ex_getO (dg dc8 69 rfl) rfl (locLand0 hb) rfl ?_
  show EX Z _ 8 _ [vR a, vR b] [vR (b + 9)] _ _
  refine ex_pu (ls' := [vR a, vR b]) (st' := [vR a, vR (b + 9)]) (dg dc8 70 rfl) rfl rfl ?_
  refine ex_getO (dg dc8 71 rfl) rfl (locLand0 ha) rfl ?_
  show EX Z _ 8 _ [vR a, vR b] [vR (a + 9), vR (b + 9)] _ _
  refine ex_cV (vs := [vR (b + 9), vR (a + 9)]) (st' := []) (F := (land_copyRow (b + 9) (a + 9) 16 M_37)) (Or.inl ⟨rfl, (dg dc8 72 rfl)⟩) rfl rfl (Or.inl rfl) rfl (fun _ r9 => land_copyRow_ok (Z := Z) (d := e9) (locLand9 hb) (locLand9 ha) (by omega) rfl r9) hf (fun M_40 he_39 hf => ?_)
  refine ex_pu (ls' := [vR a, vR b]) (st' := [vR b]) (dg dc8 73 rfl) rfl rfl ?_
  refine ex_getO (dg dc8 74 rfl) rfl (locLand0 hb) rfl ?_
  show EX Z _ 8 _ [vR a, vR b] [vR (b + 10)] _ _
  refine ex_pu (ls' := [vR a, vR b]) (st' := [vR a, vR (b + 10)]) (dg dc8 75 rfl) rfl rfl ?_
  refine ex_getO (dg dc8 76 rfl) rfl (locLand0 ha) rfl ?_
  show EX Z _ 8 _ [vR a, vR b] [vR (a + 10), vR (b + 10)] _ _
  refine ex_cV (vs := [vR (b + 10), vR (a + 10)]) (st' := []) (F := (land_copyRow (b + 10) (a + 10) 16 M_40)) (Or.inl ⟨rfl, (dg dc8 77 rfl)⟩) rfl rfl (Or.inl rfl) rfl (fun _ r9 => land_copyRow_ok (Z := Z) (d := e9) (locLand10 hb) (locLand10 ha) (by omega) rfl r9) hf (fun M_43 he_42 hf => ?_)
  refine ex_pu (ls' := [vR a, vR b]) (st' := [vR b]) (dg dc8 78 rfl) rfl rfl ?_
  refine ex_getO (dg dc8 79 rfl) rfl (locLand0 hb) rfl ?_
  show EX Z _ 8 _ [vR a, vR b] [vR (b + 11)] _ _
  refine ex_pu (ls' := [vR a, vR b]) (st' := [vR a, vR (b + 11)]) (dg dc8 80 rfl) rfl rfl ?_
  refine ex_getO (dg dc8 81 rfl) rfl (locLand0 ha) rfl ?_
  show EX Z _ 8 _ [vR a, vR b] [vR (a + 11), vR (b + 11)] _ _
  refine ex_cV (vs := [vR (b + 11), vR (a + 11)]) (st' := []) (F := (land_copyRow (b + 11) (a + 11) 7 M_43)) (Or.inl ⟨rfl, (dg dc8 82 rfl)⟩) rfl rfl (Or.inl rfl) rfl (fun _ r9 => land_copyRow_ok (Z := Z) (d := e9) (locLand11 hb) (locLand11 ha) (by omega) rfl r9) hf (fun M_46 he_45 hf => ?_)
  refine ex_pu (ls' := [vR a, vR b]) (st' := [vR b]) (dg dc8 83 rfl) rfl rfl ?_
  refine ex_getO (dg dc8 84 rfl) rfl (locLand0 hb) rfl ?_
  show EX Z _ 8 _ [vR a, vR b] [vR (b + 12)] _ _
  refine ex_pu (ls' := [vR a, vR b]) (st' := [vR a, vR (b + 12)]) (dg dc8 85 rfl) rfl rfl ?_
  refine ex_getO (dg dc8 86 rfl) rfl (locLand0 ha) rfl ?_
  show EX Z _ 8 _ [vR a, vR b] [vR (a + 12), vR (b + 12)] _ _
  refine ex_cV (vs := [vR (b + 12), vR (a + 12)]) (st' := []) (F := (land_copyRow (b + 12) (a + 12) 7 M_46)) (Or.inl ⟨rfl, (dg dc8 87 rfl)⟩) rfl rfl (Or.inl rfl) rfl (fun _ r9 => land_copyRow_ok (Z := Z) (d := e9) (locLand12 hb) (locLand12 ha) (by omega) rfl r9) hf (fun M_49 he_48 hf => ?_)
  refine ex_pu (ls' := [vR a, vR b]) (st' := [vR b]) (dg dc8 88 rfl) rfl rfl ?_
  refine ex_getO (dg dc8 89 rfl) rfl (locLand0 hb) rfl ?_
  show EX Z _ 8 _ [vR a, vR b] [vR (b + 13)] _ _
  refine ex_pu (ls' := [vR a, vR b]) (st' := [vR a, vR (b + 13)]) (dg dc8 90 rfl) rfl rfl ?_
  refine ex_getO (dg dc8 91 rfl) rfl (locLand0 ha) rfl ?_
  show EX Z _ 8 _ [vR a, vR b] [vR (a + 13), vR (b + 13)] _ _
  refine ex_cV (vs := [vR (b + 13), vR (a + 13)]) (st' := []) (F := (land_copyRow (b + 13) (a + 13) 7 M_49)) (Or.inl ⟨rfl, (dg dc8 92 rfl)⟩) rfl rfl (Or.inl rfl) rfl (fun _ r9 => land_copyRow_ok (Z := Z) (d := e9) (locLand13 hb) (locLand13 ha) (by omega) rfl r9) hf (fun M_52 he_51 hf => ?_)
  exact ex_vre (dg dc8 93 rfl) rfl hf
-- GlassHill$Land.allThings
def il10 : List (Nat × Instr × Nat) := [(0, .iconst 1, 1), (1, .aload_n 0, 1), (2, .getfield 15, 3), (5, .ishl, 1), (6, .iconst 1, 1), (7, .isub, 1), (8, .ireturn, 1)]
theorem dc10 : dcs (mC 10) il10 := dc_of (by decide +kernel)
def land_allThings (a : Nat) (M : MM) : OR :=
  some (rI ((iShl 1 (M a 1)) - 1), M)
set_option maxRecDepth 4000 in
theorem land_allThings_ok {Z : Nat × (Nat → Int)} {d : Nat} (hd : 0 ≤ d) {M : MM} {a : Nat} (ha : isLand a) {res : AR × MM} (hf : land_allThings a M = some res) : EX Z d 10 0 (ent 10 [vR a]) [] M res := by
  unfold land_allThings at hf
  show EX Z _ 10 0 [vR a] [] M res
  refine ex_pu (ls' := [vR a]) (st' := [vI 1]) (dg dc10 0 rfl) rfl rfl ?_
  refine ex_pu (ls' := [vR a]) (st' := [vR a, vI 1]) (dg dc10 1 rfl) rfl rfl ?_
  refine ex_getI (dg dc10 2 rfl) rfl (locLand0 ha) rfl ?_
  refine ex_pu (ls' := [vR a]) (st' := [vI (iShl 1 (M a 1))]) (dg dc10 3 rfl) rfl rfl ?_
  refine ex_pu (ls' := [vR a]) (st' := [vI 1, vI (iShl 1 (M a 1))]) (dg dc10 4 rfl) rfl rfl ?_
  refine ex_pu (ls' := [vR a]) (st' := [vI ((iShl 1 (M a 1)) - 1)]) (dg dc10 5 rfl) rfl rfl ?_
  exact ex_ire (dg dc10 6 rfl) rfl hf
-- GlassHill$Land.allBrothers
def il11 : List (Nat × Instr × Nat) := [(0, .iconst 1, 1), (1, .aload_n 0, 1), (2, .getfield 21, 3), (5, .ishl, 1), (6, .iconst 1, 1), (7, .isub, 1), (8, .ireturn, 1)]
theorem dc11 : dcs (mC 11) il11 := dc_of (by decide +kernel)
def land_allBrothers (a : Nat) (M : MM) : OR :=
  some (rI ((iShl 1 (M a 3)) - 1), M)
set_option maxRecDepth 4000 in
theorem land_allBrothers_ok {Z : Nat × (Nat → Int)} {d : Nat} (hd : 0 ≤ d) {M : MM} {a : Nat} (ha : isLand a) {res : AR × MM} (hf : land_allBrothers a M = some res) : EX Z d 11 0 (ent 11 [vR a]) [] M res := by
  unfold land_allBrothers at hf
  show EX Z _ 11 0 [vR a] [] M res
  refine ex_pu (ls' := [vR a]) (st' := [vI 1]) (dg dc11 0 rfl) rfl rfl ?_
  refine ex_pu (ls' := [vR a]) (st' := [vR a, vI 1]) (dg dc11 1 rfl) rfl rfl ?_
  refine ex_getI (dg dc11 2 rfl) rfl (locLand0 ha) rfl ?_
  refine ex_pu (ls' := [vR a]) (st' := [vI (iShl 1 (M a 3))]) (dg dc11 3 rfl) rfl rfl ?_
  refine ex_pu (ls' := [vR a]) (st' := [vI 1, vI (iShl 1 (M a 3))]) (dg dc11 4 rfl) rfl rfl ?_
  refine ex_pu (ls' := [vR a]) (st' := [vI ((iShl 1 (M a 3)) - 1)]) (dg dc11 5 rfl) rfl rfl ?_
  exact ex_ire (dg dc11 6 rfl) rfl hf
-- GlassHill$Land.opens
def il15 : List (Nat × Instr × Nat) := [(0, .iload_n 1, 1), (1, .aload_n 0, 1), (2, .getfield 33, 3), (5, .iload_n 2, 1), (6, .iaload, 1), (7, .iand, 1), (8, .aload_n 0, 1), (9, .getfield 37, 3), (12, .iload_n 2, 1), (13, .iaload, 1), (14, .if_icmp .ne 7, 3), (17, .iconst 1, 1), (18, .goto 4, 3), (21, .iconst 0, 1), (22, .ireturn, 1)]
theorem dc15 : dcs (mC 15) il15 := dc_of (by decide +kernel)
def land_opens (a : Nat) (v1 : Int) (v2 : Int) (M : MM) : OR :=
  (bif inB v2 17 then (bif inB v2 17 then (bif cmpB .ne (iAnd v1 (M (a + 1) (v2).toNat)) (M (a + 2) (v2).toNat) then some (rI 0, M) else some (rI 1, M)) else none) else none)
set_option maxRecDepth 4000 in
theorem land_opens_ok {Z : Nat × (Nat → Int)} {d : Nat} (hd : 0 ≤ d) {M : MM} {a : Nat} (ha : isLand a) {v1 v2 : Int} {res : AR × MM} (hf : land_opens a v1 v2 M = some res) : EX Z d 15 0 (ent 15 [vR a, vI v1, vI v2]) [] M res := by
  unfold land_opens at hf
  show EX Z _ 15 0 [vR a, vI v1, vI v2] [] M res
  refine ex_pu (ls' := [vR a, vI v1, vI v2]) (st' := [vI v1]) (dg dc15 0 rfl) rfl rfl ?_
  refine ex_pu (ls' := [vR a, vI v1, vI v2]) (st' := [vR a, vI v1]) (dg dc15 1 rfl) rfl rfl ?_
  refine ex_getO (dg dc15 2 rfl) rfl (locLand0 ha) rfl ?_
  show EX Z _ 15 _ [vR a, vI v1, vI v2] [vR (a + 1), vI v1] _ _
  refine ex_pu (ls' := [vR a, vI v1, vI v2]) (st' := [vI v2, vR (a + 1), vI v1]) (dg dc15 3 rfl) rfl rfl ?_
  refine ex_iald (dg dc15 4 rfl) (locLand1 ha) rfl hf (fun _ hf => ?_)
  refine ex_pu (ls' := [vR a, vI v1, vI v2]) (st' := [vI (iAnd v1 (M (a + 1) (v2).toNat))]) (dg dc15 5 rfl) rfl rfl ?_
  refine ex_pu (ls' := [vR a, vI v1, vI v2]) (st' := [vR a, vI (iAnd v1 (M (a + 1) (v2).toNat))]) (dg dc15 6 rfl) rfl rfl ?_
  refine ex_getO (dg dc15 7 rfl) rfl (locLand0 ha) rfl ?_
  show EX Z _ 15 _ [vR a, vI v1, vI v2] [vR (a + 2), vI (iAnd v1 (M (a + 1) (v2).toNat))] _ _
  refine ex_pu (ls' := [vR a, vI v1, vI v2]) (st' := [vI v2, vR (a + 2), vI (iAnd v1 (M (a + 1) (v2).toNat))]) (dg dc15 8 rfl) rfl rfl ?_
  refine ex_iald (dg dc15 9 rfl) (locLand2 ha) rfl hf (fun _ hf => ?_)
  refine ex_icmp (t := 21) (dg dc15 10 rfl) rfl hf (fun _ hf => ?_) (fun _ hf => ?_)
  · refine ex_pu (ls' := [vR a, vI v1, vI v2]) (st' := [vI 0]) (dg dc15 13 rfl) rfl rfl ?_
    exact ex_ire (dg dc15 14 rfl) rfl hf
  · refine ex_pu (ls' := [vR a, vI v1, vI v2]) (st' := [vI 1]) (dg dc15 11 rfl) rfl rfl ?_
    refine ex_goto (t := 22) (dg dc15 12 rfl) rfl rfl ?_
    exact ex_ire (dg dc15 14 rfl) rfl hf
-- GlassHill$Land.openers
def il16 : List (Nat × Instr × Nat) := [(0, .iconst 0, 1), (1, .istore_n 2, 1), (2, .iconst 0, 1), (3, .istore_n 3, 1), (4, .iload_n 3, 1), (5, .aload_n 0, 1), (6, .getfield 15, 3), (9, .if_icmp .ge 35, 3), (12, .iload_n 3, 1), (13, .bipush 10, 2), (15, .if_icmp .ge 29, 3), (18, .aload_n 0, 1), (19, .aload_n 0, 1), (20, .getfield 49, 3), (23, .iload_n 3, 1), (24, .iaload, 1), (25, .iload_n 1, 1), (26, .invokevirtual 96, 3), (29, .ifCond .eq 9, 3), (32, .iload_n 2, 1), (33, .iconst 1, 1), (34, .iload_n 3, 1), (35, .ishl, 1), (36, .ior, 1), (37, .istore_n 2, 1), (38, .iinc 3 1, 3), (41, .goto (-37), 3), (44, .iload_n 2, 1), (45, .ireturn, 1)]
theorem dc16 : dcs (mC 16) il16 := dc_of (by decide +kernel)
def land_openers_L4 (a : Nat) (v1 : Int) (K1 : Int → MM → OR) : Nat → Int → Int → MM → OR
  | 0, _, _, _ => none
  | n + 1, v2, v3, M => (bif cmpB .ge v3 (M a 1) then (K1 v2 M) else (bif cmpB .ge v3 10 then (K1 v2 M) else (bif inB v3 10 then (bI (land_opens a (M (a + 6) (v3).toNat) v1 M) fun z_3 M_2 => (bif cmpB .eq z_3 0 then (land_openers_L4 a v1 K1 n v2 (v3 + 1) M_2) else (land_openers_L4 a v1 K1 n (iOr v2 (iShl 1 v3)) (v3 + 1) M_2))) else none)))
set_option maxRecDepth 4000 in
theorem land_openers_L4_ok {Z : Nat × (Nat → Int)} {d : Nat} (hd : 1 ≤ d) {a : Nat} (ha : isLand a) {v1 : Int} {K1 : Int → MM → OR} {res : AR × MM} (k1 : ∀ (x2 : Int) (M : MM) (j0 j1 j3 : AV), K1 x2 M = some res → EX Z d 16 44 [j0, j1, vI x2, j3] [] M res) : ∀ (n : Nat) (v2 v3 : Int) (M : MM), land_openers_L4 a v1 K1 n v2 v3 M = some res → EX Z d 16 4 [vR a, vI v1, vI v2, vI v3] [] M res := by
  obtain ⟨e9, rfl⟩ : ∃ e9, d = e9 + 1 := ⟨d - 1, by omega⟩
  intro n
  induction n with
  | zero =>
    intro v2 v3 M hf
    unfold land_openers_L4 at hf
    cases hf
  | succ n ih =>
    intro v2 v3 M hf
    unfold land_openers_L4 at hf
    refine ex_pu (ls' := [vR a, vI v1, vI v2, vI v3]) (st' := [vI v3]) (dg dc16 4 rfl) rfl rfl ?_
    refine ex_pu (ls' := [vR a, vI v1, vI v2, vI v3]) (st' := [vR a, vI v3]) (dg dc16 5 rfl) rfl rfl ?_
    refine ex_getI (dg dc16 6 rfl) rfl (locLand0 ha) rfl ?_
    refine ex_icmp (t := 44) (dg dc16 7 rfl) rfl hf (fun _ hf => ?_) (fun _ hf => ?_)
    · exact k1 v2 M _ _ _ hf
    · refine ex_pu (ls' := [vR a, vI v1, vI v2, vI v3]) (st' := [vI v3]) (dg dc16 8 rfl) rfl rfl ?_
      refine ex_pu (ls' := [vR a, vI v1, vI v2, vI v3]) (st' := [vI 10, vI v3]) (dg dc16 9 rfl) rfl rfl ?_
      refine ex_icmp (t := 44) (dg dc16 10 rfl) rfl hf (fun _ hf => ?_) (fun _ hf => ?_)
      · exact k1 v2 M _ _ _ hf
      · refine ex_pu (ls' := [vR a, vI v1, vI v2, vI v3]) (st' := [vR a]) (dg dc16 11 rfl) rfl rfl ?_
        refine ex_pu (ls' := [vR a, vI v1, vI v2, vI v3]) (st' := [vR a, vR a]) (dg dc16 12 rfl) rfl rfl ?_
        refine ex_getO (dg dc16 13 rfl) rfl (locLand0 ha) rfl ?_
        show EX Z _ 16 _ [vR a, vI v1, vI v2, vI v3] [vR (a + 6), vR a] _ _
        refine ex_pu (ls' := [vR a, vI v1, vI v2, vI v3]) (st' := [vI v3, vR (a + 6), vR a]) (dg dc16 14 rfl) rfl rfl ?_
        refine ex_iald (dg dc16 15 rfl) (locLand6 ha) rfl hf (fun _ hf => ?_)
        refine ex_pu (ls' := [vR a, vI v1, vI v2, vI v3]) (st' := [vI v1, vI (M (a + 6) (v3).toNat), vR a]) (dg dc16 16 rfl) rfl rfl ?_
        refine ex_cI (vs := [vR a, vI (M (a + 6) (v3).toNat), vI v1]) (st' := []) (F := (land_opens a (M (a + 6) (v3).toNat) v1 M)) (Or.inr (Or.inl ⟨rfl, (dg dc16 17 rfl)⟩)) rfl rfl (rk1 (locLand0 ha) rfl) rfl (fun _ r9 => land_opens_ok (Z := Z) (d := e9) (by omega) ha  r9) hf (fun z_3 M_2 he_1 hf => ?_)
        refine ex_if (t := 38) (dg dc16 18 rfl) rfl hf (fun _ hf => ?_) (fun _ hf => ?_)
        · refine ex_pu (ls' := [vR a, vI v1, vI v2, vI (v3 + 1)]) (st' := []) (dg dc16 25 rfl) rfl rfl ?_
          refine ex_goto (t := 4) (dg dc16 26 rfl) rfl rfl ?_
          exact ih v2 (v3 + 1) M_2 hf
        · refine ex_pu (ls' := [vR a, vI v1, vI v2, vI v3]) (st' := [vI v2]) (dg dc16 19 rfl) rfl rfl ?_
          refine ex_pu (ls' := [vR a, vI v1, vI v2, vI v3]) (st' := [vI 1, vI v2]) (dg dc16 20 rfl) rfl rfl ?_
          refine ex_pu (ls' := [vR a, vI v1, vI v2, vI v3]) (st' := [vI v3, vI 1, vI v2]) (dg dc16 21 rfl) rfl rfl ?_
          refine ex_pu (ls' := [vR a, vI v1, vI v2, vI v3]) (st' := [vI (iShl 1 v3), vI v2]) (dg dc16 22 rfl) rfl rfl ?_
          refine ex_pu (ls' := [vR a, vI v1, vI v2, vI v3]) (st' := [vI (iOr v2 (iShl 1 v3))]) (dg dc16 23 rfl) rfl rfl ?_
          refine ex_pu (ls' := [vR a, vI v1, vI (iOr v2 (iShl 1 v3)), vI v3]) (st' := []) (dg dc16 24 rfl) rfl rfl ?_
          refine ex_pu (ls' := [vR a, vI v1, vI (iOr v2 (iShl 1 v3)), vI (v3 + 1)]) (st' := []) (dg dc16 25 rfl) rfl rfl ?_
          refine ex_goto (t := 4) (dg dc16 26 rfl) rfl rfl ?_
          exact ih (iOr v2 (iShl 1 v3)) (v3 + 1) M_2 hf
def land_openers (a : Nat) (v1 : Int) (M : MM) : OR :=
  (land_openers_L4 a v1 (fun v2_4 M_5 => some (rI v2_4, M_5)) FU 0 0 M)
set_option maxRecDepth 4000 in
theorem land_openers_ok {Z : Nat × (Nat → Int)} {d : Nat} (hd : 1 ≤ d) {M : MM} {a : Nat} (ha : isLand a) {v1 : Int} {res : AR × MM} (hf : land_openers a v1 M = some res) : EX Z d 16 0 (ent 16 [vR a, vI v1]) [] M res := by
  obtain ⟨e9, rfl⟩ : ∃ e9, d = e9 + 1 := ⟨d - 1, by omega⟩
  unfold land_openers at hf
  show EX Z _ 16 0 [vR a, vI v1, vU, vU] [] M res
  refine ex_pu (ls' := [vR a, vI v1, vU, vU]) (st' := [vI 0]) (dg dc16 0 rfl) rfl rfl ?_
  refine ex_pu (ls' := [vR a, vI v1, vI 0, vU]) (st' := []) (dg dc16 1 rfl) rfl rfl ?_
  refine ex_pu (ls' := [vR a, vI v1, vI 0, vU]) (st' := [vI 0]) (dg dc16 2 rfl) rfl rfl ?_
  refine ex_pu (ls' := [vR a, vI v1, vI 0, vI 0]) (st' := []) (dg dc16 3 rfl) rfl rfl ?_
  refine land_openers_L4_ok hd ha ?_ FU 0 0 M hf
  · intro v2_4 M_5 j0_6 j1_7 j3_8 hf
    refine ex_pu (ls' := [j0_6, j1_7, vI v2_4, j3_8]) (st' := [vI v2_4]) (dg dc16 27 rfl) rfl rfl ?_
    exact ex_ire (dg dc16 28 rfl) rfl hf
-- GlassHill$Land.otherEnd
def il19 : List (Nat × Instr × Nat) := [(0, .aload_n 0, 1), (1, .getfield 55, 3), (4, .iconst 2, 1), (5, .iload_n 1, 1), (6, .imul, 1), (7, .iaload, 1), (8, .iload_n 2, 1), (9, .if_icmp .ne 14, 3), (12, .aload_n 0, 1), (13, .getfield 55, 3), (16, .iconst 2, 1), (17, .iload_n 1, 1), (18, .imul, 1), (19, .iconst 1, 1), (20, .iadd, 1), (21, .iaload, 1), (22, .ireturn, 1), (23, .aload_n 0, 1), (24, .getfield 55, 3), (27, .iconst 2, 1), (28, .iload_n 1, 1), (29, .imul, 1), (30, .iconst 1, 1), (31, .iadd, 1), (32, .iaload, 1), (33, .iload_n 2, 1), (34, .if_icmp .ne 14, 3), (37, .aload_n 0, 1), (38, .getfield 55, 3), (41, .iconst 2, 1), (42, .iload_n 1, 1), (43, .imul, 1), (44, .iaload, 1), (45, .goto 4, 3), (48, .iconst (-1), 1), (49, .ireturn, 1)]
theorem dc19 : dcs (mC 19) il19 := dc_of (by decide +kernel)
def land_otherEnd (a : Nat) (v1 : Int) (v2 : Int) (M : MM) : OR :=
  (bif inB (2 * v1) 32 then (bif cmpB .ne (M (a + 8) ((2 * v1)).toNat) v2 then (bif inB ((2 * v1) + 1) 32 then (bif cmpB .ne (M (a + 8) (((2 * v1) + 1)).toNat) v2 then some (rI (-1), M) else (bif inB (2 * v1) 32 then some (rI (M (a + 8) ((2 * v1)).toNat), M) else none)) else none) else (bif inB ((2 * v1) + 1) 32 then some (rI (M (a + 8) (((2 * v1) + 1)).toNat), M) else none)) else none)
set_option maxRecDepth 4000 in
theorem land_otherEnd_ok {Z : Nat × (Nat → Int)} {d : Nat} (hd : 0 ≤ d) {M : MM} {a : Nat} (ha : isLand a) {v1 v2 : Int} {res : AR × MM} (hf : land_otherEnd a v1 v2 M = some res) : EX Z d 19 0 (ent 19 [vR a, vI v1, vI v2]) [] M res := by
  unfold land_otherEnd at hf
  show EX Z _ 19 0 [vR a, vI v1, vI v2] [] M res
  refine ex_pu (ls' := [vR a, vI v1, vI v2]) (st' := [vR a]) (dg dc19 0 rfl) rfl rfl ?_
  refine ex_getO (dg dc19 1 rfl) rfl (locLand0 ha) rfl ?_
  show EX Z _ 19 _ [vR a, vI v1, vI v2] [vR (a + 8)] _ _
  refine ex_pu (ls' := [vR a, vI v1, vI v2]) (st' := [vI 2, vR (a + 8)]) (dg dc19 2 rfl) rfl rfl ?_
  refine ex_pu (ls' := [vR a, vI v1, vI v2]) (st' := [vI v1, vI 2, vR (a + 8)]) (dg dc19 3 rfl) rfl rfl ?_
  refine ex_pu (ls' := [vR a, vI v1, vI v2]) (st' := [vI (2 * v1), vR (a + 8)]) (dg dc19 4 rfl) rfl rfl ?_
  refine ex_iald (dg dc19 5 rfl) (locLand8 ha) rfl hf (fun _ hf => ?_)
  refine ex_pu (ls' := [vR a, vI v1, vI v2]) (st' := [vI v2, vI (M (a + 8) ((2 * v1)).toNat)]) (dg dc19 6 rfl) rfl rfl ?_
  refine ex_icmp (t := 23) (dg dc19 7 rfl) rfl hf (fun _ hf => ?_) (fun _ hf => ?_)
  · refine ex_pu (ls' := [vR a, vI v1, vI v2]) (st' := [vR a]) (dg dc19 17 rfl) rfl rfl ?_
    refine ex_getO (dg dc19 18 rfl) rfl (locLand0 ha) rfl ?_
    show EX Z _ 19 _ [vR a, vI v1, vI v2] [vR (a + 8)] _ _
    refine ex_pu (ls' := [vR a, vI v1, vI v2]) (st' := [vI 2, vR (a + 8)]) (dg dc19 19 rfl) rfl rfl ?_
    refine ex_pu (ls' := [vR a, vI v1, vI v2]) (st' := [vI v1, vI 2, vR (a + 8)]) (dg dc19 20 rfl) rfl rfl ?_
    refine ex_pu (ls' := [vR a, vI v1, vI v2]) (st' := [vI (2 * v1), vR (a + 8)]) (dg dc19 21 rfl) rfl rfl ?_
    refine ex_pu (ls' := [vR a, vI v1, vI v2]) (st' := [vI 1, vI (2 * v1), vR (a + 8)]) (dg dc19 22 rfl) rfl rfl ?_
    refine ex_pu (ls' := [vR a, vI v1, vI v2]) (st' := [vI ((2 * v1) + 1), vR (a + 8)]) (dg dc19 23 rfl) rfl rfl ?_
    refine ex_iald (dg dc19 24 rfl) (locLand8 ha) rfl hf (fun _ hf => ?_)
    refine ex_pu (ls' := [vR a, vI v1, vI v2]) (st' := [vI v2, vI (M (a + 8) (((2 * v1) + 1)).toNat)]) (dg dc19 25 rfl) rfl rfl ?_
    refine ex_icmp (t := 48) (dg dc19 26 rfl) rfl hf (fun _ hf => ?_) (fun _ hf => ?_)
    · refine ex_pu (ls' := [vR a, vI v1, vI v2]) (st' := [vI (-1)]) (dg dc19 34 rfl) rfl rfl ?_
      exact ex_ire (dg dc19 35 rfl) rfl hf
    · refine ex_pu (ls' := [vR a, vI v1, vI v2]) (st' := [vR a]) (dg dc19 27 rfl) rfl rfl ?_
      refine ex_getO (dg dc19 28 rfl) rfl (locLand0 ha) rfl ?_
      show EX Z _ 19 _ [vR a, vI v1, vI v2] [vR (a + 8)] _ _
      refine ex_pu (ls' := [vR a, vI v1, vI v2]) (st' := [vI 2, vR (a + 8)]) (dg dc19 29 rfl) rfl rfl ?_
      refine ex_pu (ls' := [vR a, vI v1, vI v2]) (st' := [vI v1, vI 2, vR (a + 8)]) (dg dc19 30 rfl) rfl rfl ?_
      refine ex_pu (ls' := [vR a, vI v1, vI v2]) (st' := [vI (2 * v1), vR (a + 8)]) (dg dc19 31 rfl) rfl rfl ?_
      refine ex_iald (dg dc19 32 rfl) (locLand8 ha) rfl hf (fun _ hf => ?_)
      refine ex_goto (t := 49) (dg dc19 33 rfl) rfl rfl ?_
      exact ex_ire (dg dc19 35 rfl) rfl hf
  · refine ex_pu (ls' := [vR a, vI v1, vI v2]) (st' := [vR a]) (dg dc19 8 rfl) rfl rfl ?_
    refine ex_getO (dg dc19 9 rfl) rfl (locLand0 ha) rfl ?_
    show EX Z _ 19 _ [vR a, vI v1, vI v2] [vR (a + 8)] _ _
    refine ex_pu (ls' := [vR a, vI v1, vI v2]) (st' := [vI 2, vR (a + 8)]) (dg dc19 10 rfl) rfl rfl ?_
    refine ex_pu (ls' := [vR a, vI v1, vI v2]) (st' := [vI v1, vI 2, vR (a + 8)]) (dg dc19 11 rfl) rfl rfl ?_
    refine ex_pu (ls' := [vR a, vI v1, vI v2]) (st' := [vI (2 * v1), vR (a + 8)]) (dg dc19 12 rfl) rfl rfl ?_
    refine ex_pu (ls' := [vR a, vI v1, vI v2]) (st' := [vI 1, vI (2 * v1), vR (a + 8)]) (dg dc19 13 rfl) rfl rfl ?_
    refine ex_pu (ls' := [vR a, vI v1, vI v2]) (st' := [vI ((2 * v1) + 1), vR (a + 8)]) (dg dc19 14 rfl) rfl rfl ?_
    refine ex_iald (dg dc19 15 rfl) (locLand8 ha) rfl hf (fun _ hf => ?_)
    exact ex_ire (dg dc19 16 rfl) rfl hf
-- GlassHill$Law.copyFrom
def il21 : List (Nat × Instr × Nat) := [(0, .aload_n 0, 1), (1, .aload_n 1, 1), (2, .getfield 11, 3), (5, .putfield 11, 3), (8, .aload_n 0, 1), (9, .aload_n 1, 1), (10, .getfield 27, 3), (13, .putfield 27, 3), (16, .aload_n 1, 1), (17, .getfield 15, 3), (20, .aload_n 0, 1), (21, .getfield 15, 3), (24, .invokestatic 36, 3), (27, .aload_n 1, 1), (28, .getfield 19, 3), (31, .aload_n 0, 1), (32, .getfield 19, 3), (35, .invokestatic 36, 3), (38, .aload_n 1, 1), (39, .getfield 24, 3), (42, .aload_n 0, 1), (43, .getfield 24, 3), (46, .invokestatic 36, 3), (49, .return_, 1)]
theorem dc21 : dcs (mC 21) il21 := dc_of (by decide +kernel)
def law_copyFrom (a : Nat) (b : Nat) (M : MM) : OR :=
  (sM (mU M a 0 (M b 0)) fun M_1 => (sM (mU M_1 a 4 (M_1 b 4)) fun M_3 => (bV (land_copyRow (b + 1) (a + 1) 12 M_3) fun M_6 => (bV (land_copyRow (b + 2) (a + 2) 12 M_6) fun M_9 => (bV (land_copyRow (b + 3) (a + 3) 400 M_9) fun M_12 => some (rV, M_12))))))
set_option maxRecDepth 4000 in
theorem law_copyFrom_ok {Z : Nat × (Nat → Int)} {d : Nat} (hd : 1 ≤ d) {M : MM} {a : Nat} (ha : isLaw a) {b : Nat} (hb : isLaw b) {res : AR × MM} (hf : law_copyFrom a b M = some res) : EX Z d 21 0 (ent 21 [vR a, vR b]) [] M res := by
  obtain ⟨e9, rfl⟩ : ∃ e9, d = e9 + 1 := ⟨d - 1, by omega⟩
  unfold law_copyFrom at hf
  show EX Z _ 21 0 [vR a, vR b] [] M res
  refine ex_pu (ls' := [vR a, vR b]) (st' := [vR a]) (dg dc21 0 rfl) rfl rfl ?_
  refine ex_pu (ls' := [vR a, vR b]) (st' := [vR b, vR a]) (dg dc21 1 rfl) rfl rfl ?_
  refine ex_getI (dg dc21 2 rfl) rfl (locLaw0 hb) rfl ?_
  refine ex_putI (dg dc21 3 rfl) rfl (locLaw0 ha) rfl rfl (ne17_Law ha) ?_
  refine ex_gen hf (fun M_1 hM_2 hf => ?_)
  refine ex_pu (ls' := [vR a, vR b]) (st' := [vR a]) (dg dc21 4 rfl) rfl rfl ?_
  refine ex_pu (ls' := [vR a, vR b]) (st' := [vR b, vR a]) (dg dc21 5 rfl) rfl rfl ?_
  refine ex_getI (dg dc21 6 rfl) rfl (locLaw0 hb) rfl ?_
  refine ex_putI (dg dc21 7 rfl) rfl (locLaw0 ha) rfl rfl (ne17_Law ha) ?_
  refine ex_gen hf (fun M_3 hM_4 hf => ?_)
  refine ex_pu (ls' := [vR a, vR b]) (st' := [vR b]) (dg dc21 8 rfl) rfl rfl ?_
  refine ex_getO (dg dc21 9 rfl) rfl (locLaw0 hb) rfl ?_
  show EX Z _ 21 _ [vR a, vR b] [vR (b + 1)] _ _
  refine ex_pu (ls' := [vR a, vR b]) (st' := [vR a, vR (b + 1)]) (dg dc21 10 rfl) rfl rfl ?_
  refine ex_getO (dg dc21 11 rfl) rfl (locLaw0 ha) rfl ?_
  show EX Z _ 21 _ [vR a, vR b] [vR (a + 1), vR (b + 1)] _ _
  refine ex_cV (vs := [vR (b + 1), vR (a + 1)]) (st' := []) (F := (land_copyRow (b + 1) (a + 1) 12 M_3)) (Or.inl ⟨rfl, (dg dc21 12 rfl)⟩) rfl rfl (Or.inl rfl) rfl (fun _ r9 => land_copyRow_ok (Z := Z) (d := e9) (locLaw1 hb) (locLaw1 ha) (by omega) rfl r9) hf (fun M_6 he_5 hf => ?_)
  refine ex_pu (ls' := [vR a, vR b]) (st' := [vR b]) (dg dc21 13 rfl) rfl rfl ?_
  refine ex_getO (dg dc21 14 rfl) rfl (locLaw0 hb) rfl ?_
  show EX Z _ 21 _ [vR a, vR b] [vR (b + 2)] _ _
  refine ex_pu (ls' := [vR a, vR b]) (st' := [vR a, vR (b + 2)]) (dg dc21 15 rfl) rfl rfl ?_
  refine ex_getO (dg dc21 16 rfl) rfl (locLaw0 ha) rfl ?_
  show EX Z _ 21 _ [vR a, vR b] [vR (a + 2), vR (b + 2)] _ _
  refine ex_cV (vs := [vR (b + 2), vR (a + 2)]) (st' := []) (F := (land_copyRow (b + 2) (a + 2) 12 M_6)) (Or.inl ⟨rfl, (dg dc21 17 rfl)⟩) rfl rfl (Or.inl rfl) rfl (fun _ r9 => land_copyRow_ok (Z := Z) (d := e9) (locLaw2 hb) (locLaw2 ha) (by omega) rfl r9) hf (fun M_9 he_8 hf => ?_)
  refine ex_pu (ls' := [vR a, vR b]) (st' := [vR b]) (dg dc21 18 rfl) rfl rfl ?_
  refine ex_getO (dg dc21 19 rfl) rfl (locLaw0 hb) rfl ?_
  show EX Z _ 21 _ [vR a, vR b] [vR (b + 3)] _ _
  refine ex_pu (ls' := [vR a, vR b]) (st' := [vR a, vR (b + 3)]) (dg dc21 20 rfl) rfl rfl ?_
  refine ex_getO (dg dc21 21 rfl) rfl (locLaw0 ha) rfl ?_
  show EX Z _ 21 _ [vR a, vR b] [vR (a + 3), vR (b + 3)] _ _
  refine ex_cV (vs := [vR (b + 3), vR (a + 3)]) (st' := []) (F := (land_copyRow (b + 3) (a + 3) 400 M_9)) (Or.inl ⟨rfl, (dg dc21 22 rfl)⟩) rfl rfl (Or.inl rfl) rfl (fun _ r9 => land_copyRow_ok (Z := Z) (d := e9) (locLaw3 hb) (locLaw3 ha) (by omega) rfl r9) hf (fun M_12 he_11 hf => ?_)
  exact ex_vre (dg dc21 23 rfl) rfl hf
-- GlassHill$Law.append
def il22 : List (Nat × Instr × Nat) := [(0, .aload_n 0, 1), (1, .getfield 27, 3), (4, .sipush 400, 3), (7, .if_icmp .ge 23, 3), (10, .aload_n 0, 1), (11, .getfield 24, 3), (14, .aload_n 0, 1), (15, .getfield 27, 3), (18, .iload_n 1, 1), (19, .iastore, 1), (20, .aload_n 0, 1), (21, .dup, 1), (22, .getfield 27, 3), (25, .iconst 1, 1), (26, .iadd, 1), (27, .putfield 27, 3), (30, .return_, 1)]
theorem dc22 : dcs (mC 22) il22 := dc_of (by decide +kernel)
def law_append (a : Nat) (v1 : Int) (M : MM) : OR :=
  (bif cmpB .ge (M a 4) 400 then some (rV, M) else (bif inB (M a 4) 400 then (sM (mU M (a + 3) ((M a 4)).toNat v1) fun M_1 => (sM (mU M_1 a 4 ((M_1 a 4) + 1)) fun M_3 => some (rV, M_3))) else none))
set_option maxRecDepth 4000 in
theorem law_append_ok {Z : Nat × (Nat → Int)} {d : Nat} (hd : 0 ≤ d) {M : MM} {a : Nat} (ha : isLaw a) {v1 : Int} {res : AR × MM} (hf : law_append a v1 M = some res) : EX Z d 22 0 (ent 22 [vR a, vI v1]) [] M res := by
  unfold law_append at hf
  show EX Z _ 22 0 [vR a, vI v1] [] M res
  refine ex_pu (ls' := [vR a, vI v1]) (st' := [vR a]) (dg dc22 0 rfl) rfl rfl ?_
  refine ex_getI (dg dc22 1 rfl) rfl (locLaw0 ha) rfl ?_
  refine ex_pu (ls' := [vR a, vI v1]) (st' := [vI 400, vI (M a 4)]) (dg dc22 2 rfl) rfl rfl ?_
  refine ex_icmp (t := 30) (dg dc22 3 rfl) rfl hf (fun _ hf => ?_) (fun _ hf => ?_)
  · exact ex_vre (dg dc22 16 rfl) rfl hf
  · refine ex_pu (ls' := [vR a, vI v1]) (st' := [vR a]) (dg dc22 4 rfl) rfl rfl ?_
    refine ex_getO (dg dc22 5 rfl) rfl (locLaw0 ha) rfl ?_
    show EX Z _ 22 _ [vR a, vI v1] [vR (a + 3)] _ _
    refine ex_pu (ls' := [vR a, vI v1]) (st' := [vR a, vR (a + 3)]) (dg dc22 6 rfl) rfl rfl ?_
    refine ex_getI (dg dc22 7 rfl) rfl (locLaw0 ha) rfl ?_
    refine ex_pu (ls' := [vR a, vI v1]) (st' := [vI v1, vI (M a 4), vR (a + 3)]) (dg dc22 8 rfl) rfl rfl ?_
    refine ex_iast (dg dc22 9 rfl) (locLaw3 ha) rfl (ne17_Law_3 ha) hf (fun _ hf => ?_)
    refine ex_gen hf (fun M_1 hM_2 hf => ?_)
    refine ex_pu (ls' := [vR a, vI v1]) (st' := [vR a]) (dg dc22 10 rfl) rfl rfl ?_
    refine ex_pu (ls' := [vR a, vI v1]) (st' := [vR a, vR a]) (dg dc22 11 rfl) rfl rfl ?_
    refine ex_getI (dg dc22 12 rfl) rfl (locLaw0 ha) rfl ?_
    refine ex_pu (ls' := [vR a, vI v1]) (st' := [vI 1, vI (M_1 a 4), vR a]) (dg dc22 13 rfl) rfl rfl ?_
    refine ex_pu (ls' := [vR a, vI v1]) (st' := [vI ((M_1 a 4) + 1), vR a]) (dg dc22 14 rfl) rfl rfl ?_
    refine ex_putI (dg dc22 15 rfl) rfl (locLaw0 ha) rfl rfl (ne17_Law ha) ?_
    refine ex_gen hf (fun M_3 hM_4 hf => ?_)
    exact ex_vre (dg dc22 16 rfl) rfl hf
-- GlassHill$Law.tellRoad
def il23 : List (Nat × Instr × Nat) := [(0, .iload 4, 2), (2, .bipush 24, 2), (4, .irem, 1), (5, .istore 5, 2), (7, .aload_n 0, 1), (8, .getfield 30, 3), (11, .iconst 0, 1), (12, .iload_n 1, 1), (13, .iastore, 1), (14, .aload_n 0, 1), (15, .getfield 30, 3), (18, .iconst 1, 1), (19, .iload_n 2, 1), (20, .iastore, 1), (21, .aload_n 0, 1), (22, .getfield 30, 3), (25, .iconst 2, 1), (26, .iload_n 3, 1), (27, .iastore, 1), (28, .aload_n 0, 1), (29, .getfield 30, 3), (32, .iconst 3, 1), (33, .iload 5, 2), (35, .iastore, 1), (36, .aload_n 0, 1), (37, .getfield 30, 3), (40, .iconst 4, 1), (41, .iload 4, 2), (43, .bipush 24, 2), (45, .idiv, 1), (46, .iastore, 1), (47, .aload_n 0, 1), (48, .getfield 30, 3), (51, .bipush 7, 2), (53, .iload 5, 2), (55, .bipush 6, 2), (57, .if_icmp .lt 10, 3), (60, .iload 5, 2), (62, .bipush 19, 2), (64, .if_icmp .le 7, 3), (67, .iconst 1, 1), (68, .goto 4, 3), (71, .iconst 0, 1), (72, .iastore, 1), (73, .return_, 1)]
theorem dc23 : dcs (mC 23) il23 := dc_of (by decide +kernel)
def law_tellRoad (a : Nat) (v1 : Int) (v2 : Int) (v3 : Int) (v4 : Int) (M : MM) : OR :=
  (bif inB 0 8 then (sM (mU M (a + 4) 0 v1) fun M_1 => (bif inB 1 8 then (sM (mU M_1 (a + 4) 1 v2) fun M_3 => (bif inB 2 8 then (sM (mU M_3 (a + 4) 2 v3) fun M_5 => (bif inB 3 8 then (sM (mU M_5 (a + 4) 3 ((w32 v4).tmod (w32 24))) fun M_7 => (bif inB 4 8 then (sM (mU M_7 (a + 4) 4 ((w32 v4).tdiv (w32 24))) fun M_9 => (bif cmpB .lt ((w32 v4).tmod (w32 24)) 6 then (bif inB 7 8 then (sM (mU M_9 (a + 4) 7 1) fun M_11 => some (rV, M_11)) else none) else (bif cmpB .le ((w32 v4).tmod (w32 24)) 19 then (bif inB 7 8 then (sM (mU M_9 (a + 4) 7 0) fun M_13 => some (rV, M_13)) else none) else (bif inB 7 8 then (sM (mU M_9 (a + 4) 7 1) fun M_15 => some (rV, M_15)) else none)))) else none)) else none)) else none)) else none)) else none)
set_option maxRecDepth 4000 in
theorem law_tellRoad_ok {Z : Nat × (Nat → Int)} {d : Nat} (hd : 0 ≤ d) {M : MM} {a : Nat} (ha : isLaw a) {v1 v2 v3 v4 : Int} {res : AR × MM} (hf : law_tellRoad a v1 v2 v3 v4 M = some res) : EX Z d 23 0 (ent 23 [vR a, vI v1, vI v2, vI v3, vI v4]) [] M res := by
  unfold law_tellRoad at hf
  show EX Z _ 23 0 [vR a, vI v1, vI v2, vI v3, vI v4, vU] [] M res
  refine ex_pu (ls' := [vR a, vI v1, vI v2, vI v3, vI v4, vU]) (st' := [vI v4]) (dg dc23 0 rfl) rfl rfl ?_
  refine ex_pu (ls' := [vR a, vI v1, vI v2, vI v3, vI v4, vU]) (st' := [vI 24, vI v4]) (dg dc23 1 rfl) rfl rfl ?_
  refine ex_irem (dg dc23 2 rfl) (by decide +kernel) ?_
  refine ex_pu (ls' := [vR a, vI v1, vI v2, vI v3, vI v4, vI ((w32 v4).tmod (w32 24))]) (st' := []) (dg dc23 3 rfl) rfl rfl ?_
  refine ex_pu (ls' := [vR a, vI v1, vI v2, vI v3, vI v4, vI ((w32 v4).tmod (w32 24))]) (st' := [vR a]) (dg dc23 4 rfl) rfl rfl ?_
  refine ex_getO (dg dc23 5 rfl) rfl (locLaw0 ha) rfl ?_
  show EX Z _ 23 _ [vR a, vI v1, vI v2, vI v3, vI v4, vI ((w32 v4).tmod (w32 24))] [vR (a + 4)] _ _
  refine ex_pu (ls' := [vR a, vI v1, vI v2, vI v3, vI v4, vI ((w32 v4).tmod (w32 24))]) (st' := [vI 0, vR (a + 4)]) (dg dc23 6 rfl) rfl rfl ?_
  refine ex_pu (ls' := [vR a, vI v1, vI v2, vI v3, vI v4, vI ((w32 v4).tmod (w32 24))]) (st' := [vI v1, vI 0, vR (a + 4)]) (dg dc23 7 rfl) rfl rfl ?_
  refine ex_iast (dg dc23 8 rfl) (locLaw4 ha) rfl (ne17_Law_4 ha) hf (fun _ hf => ?_)
  refine ex_gen hf (fun M_1 hM_2 hf => ?_)
  refine ex_pu (ls' := [vR a, vI v1, vI v2, vI v3, vI v4, vI ((w32 v4).tmod (w32 24))]) (st' := [vR a]) (dg dc23 9 rfl) rfl rfl ?_
  refine ex_getO (dg dc23 10 rfl) rfl (locLaw0 ha) rfl ?_
  show EX Z _ 23 _ [vR a, vI v1, vI v2, vI v3, vI v4, vI ((w32 v4).tmod (w32 24))] [vR (a + 4)] _ _
  refine ex_pu (ls' := [vR a, vI v1, vI v2, vI v3, vI v4, vI ((w32 v4).tmod (w32 24))]) (st' := [vI 1, vR (a + 4)]) (dg dc23 11 rfl) rfl rfl ?_
  refine ex_pu (ls' := [vR a, vI v1, vI v2, vI v3, vI v4, vI ((w32 v4).tmod (w32 24))]) (st' := [vI v2, vI 1, vR (a + 4)]) (dg dc23 12 rfl) rfl rfl ?_
  refine ex_iast (dg dc23 13 rfl) (locLaw4 ha) rfl (ne17_Law_4 ha) hf (fun _ hf => ?_)
  refine ex_gen hf (fun M_3 hM_4 hf => ?_)
  refine ex_pu (ls' := [vR a, vI v1, vI v2, vI v3, vI v4, vI ((w32 v4).tmod (w32 24))]) (st' := [vR a]) (dg dc23 14 rfl) rfl rfl ?_
  refine ex_getO (dg dc23 15 rfl) rfl (locLaw0 ha) rfl ?_
  show EX Z _ 23 _ [vR a, vI v1, vI v2, vI v3, vI v4, vI ((w32 v4).tmod (w32 24))] [vR (a + 4)] _ _
  refine ex_pu (ls' := [vR a, vI v1, vI v2, vI v3, vI v4, vI ((w32 v4).tmod (w32 24))]) (st' := [vI 2, vR (a + 4)]) (dg dc23 16 rfl) rfl rfl ?_
  refine ex_pu (ls' := [vR a, vI v1, vI v2, vI v3, vI v4, vI ((w32 v4).tmod (w32 24))]) (st' := [vI v3, vI 2, vR (a + 4)]) (dg dc23 17 rfl) rfl rfl ?_
  refine ex_iast (dg dc23 18 rfl) (locLaw4 ha) rfl (ne17_Law_4 ha) hf (fun _ hf => ?_)
  refine ex_gen hf (fun M_5 hM_6 hf => ?_)
  refine ex_pu (ls' := [vR a, vI v1, vI v2, vI v3, vI v4, vI ((w32 v4).tmod (w32 24))]) (st' := [vR a]) (dg dc23 19 rfl) rfl rfl ?_
  refine ex_getO (dg dc23 20 rfl) rfl (locLaw0 ha) rfl ?_
  show EX Z _ 23 _ [vR a, vI v1, vI v2, vI v3, vI v4, vI ((w32 v4).tmod (w32 24))] [vR (a + 4)] _ _
  refine ex_pu (ls' := [vR a, vI v1, vI v2, vI v3, vI v4, vI ((w32 v4).tmod (w32 24))]) (st' := [vI 3, vR (a + 4)]) (dg dc23 21 rfl) rfl rfl ?_
  refine ex_pu (ls' := [vR a, vI v1, vI v2, vI v3, vI v4, vI ((w32 v4).tmod (w32 24))]) (st' := [vI ((w32 v4).tmod (w32 24)), vI 3, vR (a + 4)]) (dg dc23 22 rfl) rfl rfl ?_
  refine ex_iast (dg dc23 23 rfl) (locLaw4 ha) rfl (ne17_Law_4 ha) hf (fun _ hf => ?_)
  refine ex_gen hf (fun M_7 hM_8 hf => ?_)
  refine ex_pu (ls' := [vR a, vI v1, vI v2, vI v3, vI v4, vI ((w32 v4).tmod (w32 24))]) (st' := [vR a]) (dg dc23 24 rfl) rfl rfl ?_
  refine ex_getO (dg dc23 25 rfl) rfl (locLaw0 ha) rfl ?_
  show EX Z _ 23 _ [vR a, vI v1, vI v2, vI v3, vI v4, vI ((w32 v4).tmod (w32 24))] [vR (a + 4)] _ _
  refine ex_pu (ls' := [vR a, vI v1, vI v2, vI v3, vI v4, vI ((w32 v4).tmod (w32 24))]) (st' := [vI 4, vR (a + 4)]) (dg dc23 26 rfl) rfl rfl ?_
  refine ex_pu (ls' := [vR a, vI v1, vI v2, vI v3, vI v4, vI ((w32 v4).tmod (w32 24))]) (st' := [vI v4, vI 4, vR (a + 4)]) (dg dc23 27 rfl) rfl rfl ?_
  refine ex_pu (ls' := [vR a, vI v1, vI v2, vI v3, vI v4, vI ((w32 v4).tmod (w32 24))]) (st' := [vI 24, vI v4, vI 4, vR (a + 4)]) (dg dc23 28 rfl) rfl rfl ?_
  refine ex_idiv (dg dc23 29 rfl) (by decide +kernel) ?_
  refine ex_iast (dg dc23 30 rfl) (locLaw4 ha) rfl (ne17_Law_4 ha) hf (fun _ hf => ?_)
  refine ex_gen hf (fun M_9 hM_10 hf => ?_)
  refine ex_pu (ls' := [vR a, vI v1, vI v2, vI v3, vI v4, vI ((w32 v4).tmod (w32 24))]) (st' := [vR a]) (dg dc23 31 rfl) rfl rfl ?_
  refine ex_getO (dg dc23 32 rfl) rfl (locLaw0 ha) rfl ?_
  show EX Z _ 23 _ [vR a, vI v1, vI v2, vI v3, vI v4, vI ((w32 v4).tmod (w32 24))] [vR (a + 4)] _ _
  refine ex_pu (ls' := [vR a, vI v1, vI v2, vI v3, vI v4, vI ((w32 v4).tmod (w32 24))]) (st' := [vI 7, vR (a + 4)]) (dg dc23 33 rfl) rfl rfl ?_
  refine ex_pu (ls' := [vR a, vI v1, vI v2, vI v3, vI v4, vI ((w32 v4).tmod (w32 24))]) (st' := [vI ((w32 v4).tmod (w32 24)), vI 7, vR (a + 4)]) (dg dc23 34 rfl) rfl rfl ?_
  refine ex_pu (ls' := [vR a, vI v1, vI v2, vI v3, vI v4, vI ((w32 v4).tmod (w32 24))]) (st' := [vI 6, vI ((w32 v4).tmod (w32 24)), vI 7, vR (a + 4)]) (dg dc23 35 rfl) rfl rfl ?_
  refine ex_icmp (t := 67) (dg dc23 36 rfl) rfl hf (fun _ hf => ?_) (fun _ hf => ?_)
  · refine ex_pu (ls' := [vR a, vI v1, vI v2, vI v3, vI v4, vI ((w32 v4).tmod (w32 24))]) (st' := [vI 1, vI 7, vR (a + 4)]) (dg dc23 40 rfl) rfl rfl ?_
    refine ex_goto (t := 72) (dg dc23 41 rfl) rfl rfl ?_
    refine ex_iast (dg dc23 43 rfl) (locLaw4 ha) rfl (ne17_Law_4 ha) hf (fun _ hf => ?_)
    refine ex_gen hf (fun M_11 hM_12 hf => ?_)
    exact ex_vre (dg dc23 44 rfl) rfl hf
  · refine ex_pu (ls' := [vR a, vI v1, vI v2, vI v3, vI v4, vI ((w32 v4).tmod (w32 24))]) (st' := [vI ((w32 v4).tmod (w32 24)), vI 7, vR (a + 4)]) (dg dc23 37 rfl) rfl rfl ?_
    refine ex_pu (ls' := [vR a, vI v1, vI v2, vI v3, vI v4, vI ((w32 v4).tmod (w32 24))]) (st' := [vI 19, vI ((w32 v4).tmod (w32 24)), vI 7, vR (a + 4)]) (dg dc23 38 rfl) rfl rfl ?_
    refine ex_icmp (t := 71) (dg dc23 39 rfl) rfl hf (fun _ hf => ?_) (fun _ hf => ?_)
    · refine ex_pu (ls' := [vR a, vI v1, vI v2, vI v3, vI v4, vI ((w32 v4).tmod (w32 24))]) (st' := [vI 0, vI 7, vR (a + 4)]) (dg dc23 42 rfl) rfl rfl ?_
      refine ex_iast (dg dc23 43 rfl) (locLaw4 ha) rfl (ne17_Law_4 ha) hf (fun _ hf => ?_)
      refine ex_gen hf (fun M_13 hM_14 hf => ?_)
      exact ex_vre (dg dc23 44 rfl) rfl hf
    · refine ex_pu (ls' := [vR a, vI v1, vI v2, vI v3, vI v4, vI ((w32 v4).tmod (w32 24))]) (st' := [vI 1, vI 7, vR (a + 4)]) (dg dc23 40 rfl) rfl rfl ?_
      refine ex_goto (t := 72) (dg dc23 41 rfl) rfl rfl ?_
      refine ex_iast (dg dc23 43 rfl) (locLaw4 ha) rfl (ne17_Law_4 ha) hf (fun _ hf => ?_)
      refine ex_gen hf (fun M_15 hM_16 hf => ?_)
      exact ex_vre (dg dc23 44 rfl) rfl hf
-- GlassHill$Law.tellCarried
def il24 : List (Nat × Instr × Nat) := [(0, .aload_n 0, 1), (1, .getfield 30, 3), (4, .iconst 5, 1), (5, .iload_n 1, 1), (6, .iastore, 1), (7, .aload_n 0, 1), (8, .getfield 30, 3), (11, .bipush 6, 2), (13, .iload_n 2, 1), (14, .iastore, 1), (15, .return_, 1)]
theorem dc24 : dcs (mC 24) il24 := dc_of (by decide +kernel)
def law_tellCarried (a : Nat) (v1 : Int) (v2 : Int) (M : MM) : OR :=
  (bif inB 5 8 then (sM (mU M (a + 4) 5 v1) fun M_1 => (bif inB 6 8 then (sM (mU M_1 (a + 4) 6 v2) fun M_3 => some (rV, M_3)) else none)) else none)
set_option maxRecDepth 4000 in
theorem law_tellCarried_ok {Z : Nat × (Nat → Int)} {d : Nat} (hd : 0 ≤ d) {M : MM} {a : Nat} (ha : isLaw a) {v1 v2 : Int} {res : AR × MM} (hf : law_tellCarried a v1 v2 M = some res) : EX Z d 24 0 (ent 24 [vR a, vI v1, vI v2]) [] M res := by
  unfold law_tellCarried at hf
  show EX Z _ 24 0 [vR a, vI v1, vI v2] [] M res
  refine ex_pu (ls' := [vR a, vI v1, vI v2]) (st' := [vR a]) (dg dc24 0 rfl) rfl rfl ?_
  refine ex_getO (dg dc24 1 rfl) rfl (locLaw0 ha) rfl ?_
  show EX Z _ 24 _ [vR a, vI v1, vI v2] [vR (a + 4)] _ _
  refine ex_pu (ls' := [vR a, vI v1, vI v2]) (st' := [vI 5, vR (a + 4)]) (dg dc24 2 rfl) rfl rfl ?_
  refine ex_pu (ls' := [vR a, vI v1, vI v2]) (st' := [vI v1, vI 5, vR (a + 4)]) (dg dc24 3 rfl) rfl rfl ?_
  refine ex_iast (dg dc24 4 rfl) (locLaw4 ha) rfl (ne17_Law_4 ha) hf (fun _ hf => ?_)
  refine ex_gen hf (fun M_1 hM_2 hf => ?_)
  refine ex_pu (ls' := [vR a, vI v1, vI v2]) (st' := [vR a]) (dg dc24 5 rfl) rfl rfl ?_
  refine ex_getO (dg dc24 6 rfl) rfl (locLaw0 ha) rfl ?_
  show EX Z _ 24 _ [vR a, vI v1, vI v2] [vR (a + 4)] _ _
  refine ex_pu (ls' := [vR a, vI v1, vI v2]) (st' := [vI 6, vR (a + 4)]) (dg dc24 7 rfl) rfl rfl ?_
  refine ex_pu (ls' := [vR a, vI v1, vI v2]) (st' := [vI v2, vI 6, vR (a + 4)]) (dg dc24 8 rfl) rfl rfl ?_
  refine ex_iast (dg dc24 9 rfl) (locLaw4 ha) rfl (ne17_Law_4 ha) hf (fun _ hf => ?_)
  refine ex_gen hf (fun M_3 hM_4 hf => ?_)
  exact ex_vre (dg dc24 10 rfl) rfl hf
-- GlassHill$Law.joined
def il26 : List (Nat × Instr × Nat) := [(0, .iload_n 0, 1), (1, .tableswitch 65 1009 1013 #[35, 39, 65, 43, 54], 35), (36, .iload_n 1, 1), (37, .iload_n 2, 1), (38, .iand, 1), (39, .ireturn, 1), (40, .iload_n 1, 1), (41, .iload_n 2, 1), (42, .ior, 1), (43, .ireturn, 1), (44, .iload_n 1, 1), (45, .iload_n 2, 1), (46, .if_icmp .ge 7, 3), (49, .iconst 1, 1), (50, .goto 4, 3), (53, .iconst 0, 1), (54, .ireturn, 1), (55, .iload_n 1, 1), (56, .iload_n 2, 1), (57, .if_icmp .le 7, 3), (60, .iconst 1, 1), (61, .goto 4, 3), (64, .iconst 0, 1), (65, .ireturn, 1), (66, .iload_n 1, 1), (67, .iload_n 2, 1), (68, .iadd, 1), (69, .ireturn, 1)]
theorem dc26 : dcs (mC 26) il26 := dc_of (by decide +kernel)
def law_joined (v0 : Int) (v1 : Int) (v2 : Int) (M : MM) : OR :=
  (bif cmpB .eq v0 1009 then some (rI (iAnd v1 v2), M) else (bif cmpB .eq v0 1010 then some (rI (iOr v1 v2), M) else (bif cmpB .eq v0 1011 then some (rI (v1 + v2), M) else (bif cmpB .eq v0 1012 then (bif cmpB .ge v1 v2 then some (rI 0, M) else some (rI 1, M)) else (bif cmpB .eq v0 1013 then (bif cmpB .le v1 v2 then some (rI 0, M) else some (rI 1, M)) else some (rI (v1 + v2), M))))))
set_option maxRecDepth 4000 in
theorem law_joined_ok {Z : Nat × (Nat → Int)} {d : Nat} (hd : 0 ≤ d) {M : MM}  {v0 v1 v2 : Int} {res : AR × MM} (hf : law_joined v0 v1 v2 M = some res) : EX Z d 26 0 (ent 26 [vI v0, vI v1, vI v2]) [] M res := by
  unfold law_joined at hf
  show EX Z _ 26 0 [vI v0, vI v1, vI v2] [] M res
  refine ex_pu (ls' := [vI v0, vI v1, vI v2]) (st' := [vI v0]) (dg dc26 0 rfl) rfl rfl ?_
  refine ex_bif hf (fun hc_1 hf => ?_) (fun hc_1 hf => ?_)
  · refine ex_tsw (t := 36) (dg dc26 1 rfl) hc_1 (by decide +kernel) rfl ⟨by decide, by decide, by decide⟩ rfl ?_
    refine ex_pu (ls' := [vI v0, vI v1, vI v2]) (st' := [vI v1]) (dg dc26 2 rfl) rfl rfl ?_
    refine ex_pu (ls' := [vI v0, vI v1, vI v2]) (st' := [vI v2, vI v1]) (dg dc26 3 rfl) rfl rfl ?_
    refine ex_pu (ls' := [vI v0, vI v1, vI v2]) (st' := [vI (iAnd v1 v2)]) (dg dc26 4 rfl) rfl rfl ?_
    exact ex_ire (dg dc26 5 rfl) rfl hf
  ·
    refine ex_bif hf (fun hc_2 hf => ?_) (fun hc_2 hf => ?_)
    · refine ex_tsw (t := 40) (dg dc26 1 rfl) hc_2 (by decide +kernel) rfl ⟨by decide, by decide, by decide⟩ rfl ?_
      refine ex_pu (ls' := [vI v0, vI v1, vI v2]) (st' := [vI v1]) (dg dc26 6 rfl) rfl rfl ?_
      refine ex_pu (ls' := [vI v0, vI v1, vI v2]) (st' := [vI v2, vI v1]) (dg dc26 7 rfl) rfl rfl ?_
      refine ex_pu (ls' := [vI v0, vI v1, vI v2]) (st' := [vI (iOr v1 v2)]) (dg dc26 8 rfl) rfl rfl ?_
      exact ex_ire (dg dc26 9 rfl) rfl hf
    ·
      refine ex_bif hf (fun hc_3 hf => ?_) (fun hc_3 hf => ?_)
      · refine ex_tsw (t := 66) (dg dc26 1 rfl) hc_3 (by decide +kernel) rfl ⟨by decide, by decide, by decide⟩ rfl ?_
        refine ex_pu (ls' := [vI v0, vI v1, vI v2]) (st' := [vI v1]) (dg dc26 24 rfl) rfl rfl ?_
        refine ex_pu (ls' := [vI v0, vI v1, vI v2]) (st' := [vI v2, vI v1]) (dg dc26 25 rfl) rfl rfl ?_
        refine ex_pu (ls' := [vI v0, vI v1, vI v2]) (st' := [vI (v1 + v2)]) (dg dc26 26 rfl) rfl rfl ?_
        exact ex_ire (dg dc26 27 rfl) rfl hf
      ·
        refine ex_bif hf (fun hc_4 hf => ?_) (fun hc_4 hf => ?_)
        · refine ex_tsw (t := 44) (dg dc26 1 rfl) hc_4 (by decide +kernel) rfl ⟨by decide, by decide, by decide⟩ rfl ?_
          refine ex_pu (ls' := [vI v0, vI v1, vI v2]) (st' := [vI v1]) (dg dc26 10 rfl) rfl rfl ?_
          refine ex_pu (ls' := [vI v0, vI v1, vI v2]) (st' := [vI v2, vI v1]) (dg dc26 11 rfl) rfl rfl ?_
          refine ex_icmp (t := 53) (dg dc26 12 rfl) rfl hf (fun _ hf => ?_) (fun _ hf => ?_)
          · refine ex_pu (ls' := [vI v0, vI v1, vI v2]) (st' := [vI 0]) (dg dc26 15 rfl) rfl rfl ?_
            exact ex_ire (dg dc26 16 rfl) rfl hf
          · refine ex_pu (ls' := [vI v0, vI v1, vI v2]) (st' := [vI 1]) (dg dc26 13 rfl) rfl rfl ?_
            refine ex_goto (t := 54) (dg dc26 14 rfl) rfl rfl ?_
            exact ex_ire (dg dc26 16 rfl) rfl hf
        ·
          refine ex_bif hf (fun hc_5 hf => ?_) (fun hc_5 hf => ?_)
          · refine ex_tsw (t := 55) (dg dc26 1 rfl) hc_5 (by decide +kernel) rfl ⟨by decide, by decide, by decide⟩ rfl ?_
            refine ex_pu (ls' := [vI v0, vI v1, vI v2]) (st' := [vI v1]) (dg dc26 17 rfl) rfl rfl ?_
            refine ex_pu (ls' := [vI v0, vI v1, vI v2]) (st' := [vI v2, vI v1]) (dg dc26 18 rfl) rfl rfl ?_
            refine ex_icmp (t := 64) (dg dc26 19 rfl) rfl hf (fun _ hf => ?_) (fun _ hf => ?_)
            · refine ex_pu (ls' := [vI v0, vI v1, vI v2]) (st' := [vI 0]) (dg dc26 22 rfl) rfl rfl ?_
              exact ex_ire (dg dc26 23 rfl) rfl hf
            · refine ex_pu (ls' := [vI v0, vI v1, vI v2]) (st' := [vI 1]) (dg dc26 20 rfl) rfl rfl ?_
              refine ex_goto (t := 65) (dg dc26 21 rfl) rfl rfl ?_
              exact ex_ire (dg dc26 23 rfl) rfl hf
          · refine ex_tsd (t := 66) (dg dc26 1 rfl) (sw_out (lo := 1009) (hi := 1013) (fun j h1 h2 => by have hj : j = 1009 ∨ j = 1010 ∨ j = 1011 ∨ j = 1012 ∨ j = 1013 := (by omega); rcases hj with rfl | rfl | rfl | rfl | rfl <;> first | exact ⟨hc_1, by decide +kernel⟩ | exact ⟨hc_2, by decide +kernel⟩ | exact ⟨hc_3, by decide +kernel⟩ | exact ⟨hc_4, by decide +kernel⟩ | exact ⟨hc_5, by decide +kernel⟩)) rfl ?_
            refine ex_pu (ls' := [vI v0, vI v1, vI v2]) (st' := [vI v1]) (dg dc26 24 rfl) rfl rfl ?_
            refine ex_pu (ls' := [vI v0, vI v1, vI v2]) (st' := [vI v2, vI v1]) (dg dc26 25 rfl) rfl rfl ?_
            refine ex_pu (ls' := [vI v0, vI v1, vI v2]) (st' := [vI (v1 + v2)]) (dg dc26 26 rfl) rfl rfl ?_
            exact ex_ire (dg dc26 27 rfl) rfl hf
-- GlassHill$Memory.keep
def il38 : List (Nat × Instr × Nat) := [(0, .aload_n 0, 1), (1, .getfield 18, 3), (4, .aload_n 0, 1), (5, .getfield 13, 3), (8, .aaload, 1), (9, .aload_n 1, 1), (10, .invokevirtual 23, 3), (13, .aload_n 0, 1), (14, .aload_n 0, 1), (15, .getfield 13, 3), (18, .iconst 1, 1), (19, .iadd, 1), (20, .bipush 12, 2), (22, .irem, 1), (23, .putfield 13, 3), (26, .aload_n 0, 1), (27, .aload_n 0, 1), (28, .getfield 7, 3), (31, .iconst 1, 1), (32, .iadd, 1), (33, .bipush 12, 2), (35, .invokestatic 27, 3), (38, .putfield 7, 3), (41, .return_, 1)]
theorem dc38 : dcs (mC 38) il38 := dc_of (by decide +kernel)
def memo_keep (b : Nat) (M : MM) : OR :=
  (bif inB (M 83 1) 12 then (bV (jny_copyFrom (85 + 6 * ((M 83 1)).toNat) b M) fun M_3 => (sM (mU M_3 83 1 ((w32 ((M_3 83 1) + 1)).tmod (w32 12))) fun M_5 => (sM (mU M_5 83 0 (imin ((M_5 83 0) + 1) 12)) fun M_7 => some (rV, M_7)))) else none)
set_option maxRecDepth 4000 in
theorem memo_keep_ok {Z : Nat × (Nat → Int)} {d : Nat} (hd : 2 ≤ d) {M : MM} {b : Nat} (hb : isJny b) {res : AR × MM} (hf : memo_keep b M = some res) : EX Z d 38 0 (ent 38 [vR 83, vR b]) [] M res := by
  obtain ⟨e9, rfl⟩ : ∃ e9, d = e9 + 1 := ⟨d - 1, by omega⟩
  unfold memo_keep at hf
  show EX Z _ 38 0 [vR 83, vR b] [] M res
  refine ex_pu (ls' := [vR 83, vR b]) (st' := [vR 83]) (dg dc38 0 rfl) rfl rfl ?_
  refine ex_getO (dg dc38 1 rfl) rfl (LOC.st (Nat.le_of_ble_eq_true rfl) rfl) rfl ?_
  show EX Z _ 38 _ [vR 83, vR b] [vR 84] _ _
  refine ex_pu (ls' := [vR 83, vR b]) (st' := [vR 83, vR 84]) (dg dc38 2 rfl) rfl rfl ?_
  refine ex_getI (dg dc38 3 rfl) rfl (LOC.st (Nat.le_of_ble_eq_true rfl) rfl) rfl ?_
  refine ex_aald (f9 := fun i0 => 85 + 6 * i0.toNat) (dg dc38 4 rfl) (LOC.st (Nat.le_of_ble_eq_true rfl) rfl) rfl ring_el hf (fun hi_1 hf => ?_)
  refine ex_pu (ls' := [vR 83, vR b]) (st' := [vR b, vR (85 + 6 * ((M 83 1)).toNat)]) (dg dc38 5 rfl) rfl rfl ?_
  refine ex_cV (vs := [vR (85 + 6 * ((M 83 1)).toNat), vR b]) (st' := []) (F := (jny_copyFrom (85 + 6 * ((M 83 1)).toNat) b M)) (Or.inr (Or.inl ⟨rfl, (dg dc38 6 rfl)⟩)) rfl rfl (rk1 (locJny0 (jny_ring hi_1)) rfl) rfl (fun _ r9 => jny_copyFrom_ok (Z := Z) (d := e9) (by omega) (jny_ring hi_1) hb  r9) hf (fun M_3 he_2 hf => ?_)
  refine ex_pu (ls' := [vR 83, vR b]) (st' := [vR 83]) (dg dc38 7 rfl) rfl rfl ?_
  refine ex_pu (ls' := [vR 83, vR b]) (st' := [vR 83, vR 83]) (dg dc38 8 rfl) rfl rfl ?_
  refine ex_getI (dg dc38 9 rfl) rfl (LOC.st (Nat.le_of_ble_eq_true rfl) rfl) rfl ?_
  refine ex_pu (ls' := [vR 83, vR b]) (st' := [vI 1, vI (M_3 83 1), vR 83]) (dg dc38 10 rfl) rfl rfl ?_
  refine ex_pu (ls' := [vR 83, vR b]) (st' := [vI ((M_3 83 1) + 1), vR 83]) (dg dc38 11 rfl) rfl rfl ?_
  refine ex_pu (ls' := [vR 83, vR b]) (st' := [vI 12, vI ((M_3 83 1) + 1), vR 83]) (dg dc38 12 rfl) rfl rfl ?_
  refine ex_irem (dg dc38 13 rfl) (by decide +kernel) ?_
  refine ex_putI (dg dc38 14 rfl) rfl (LOC.st (Nat.le_of_ble_eq_true rfl) rfl) rfl rfl rfl ?_
  refine ex_gen hf (fun M_5 hM_6 hf => ?_)
  refine ex_pu (ls' := [vR 83, vR b]) (st' := [vR 83]) (dg dc38 15 rfl) rfl rfl ?_
  refine ex_pu (ls' := [vR 83, vR b]) (st' := [vR 83, vR 83]) (dg dc38 16 rfl) rfl rfl ?_
  refine ex_getI (dg dc38 17 rfl) rfl (LOC.st (Nat.le_of_ble_eq_true rfl) rfl) rfl ?_
  refine ex_pu (ls' := [vR 83, vR b]) (st' := [vI 1, vI (M_5 83 0), vR 83]) (dg dc38 18 rfl) rfl rfl ?_
  refine ex_pu (ls' := [vR 83, vR b]) (st' := [vI ((M_5 83 0) + 1), vR 83]) (dg dc38 19 rfl) rfl rfl ?_
  refine ex_pu (ls' := [vR 83, vR b]) (st' := [vI 12, vI ((M_5 83 0) + 1), vR 83]) (dg dc38 20 rfl) rfl rfl ?_
  refine ex_min (dg dc38 21 rfl) rfl rfl ?_
  refine ex_putI (dg dc38 22 rfl) rfl (LOC.st (Nat.le_of_ble_eq_true rfl) rfl) rfl rfl rfl ?_
  refine ex_gen hf (fun M_7 hM_8 hf => ?_)
  exact ex_vre (dg dc38 23 rfl) rfl hf
-- GlassHill$Memory.recall
def il39 : List (Nat × Instr × Nat) := [(0, .aload_n 0, 1), (1, .getfield 7, 3), (4, .ifCond .ne 5, 3), (7, .iconst 0, 1), (8, .ireturn, 1), (9, .aload_n 0, 1), (10, .dup, 1), (11, .getfield 7, 3), (14, .iconst 1, 1), (15, .isub, 1), (16, .putfield 7, 3), (19, .aload_n 0, 1), (20, .aload_n 0, 1), (21, .getfield 13, 3), (24, .bipush 12, 2), (26, .iadd, 1), (27, .iconst 1, 1), (28, .isub, 1), (29, .bipush 12, 2), (31, .irem, 1), (32, .putfield 13, 3), (35, .aload_n 1, 1), (36, .aload_n 0, 1), (37, .getfield 18, 3), (40, .aload_n 0, 1), (41, .getfield 13, 3), (44, .aaload, 1), (45, .invokevirtual 23, 3), (48, .iconst 1, 1), (49, .ireturn, 1)]
theorem dc39 : dcs (mC 39) il39 := dc_of (by decide +kernel)
def memo_recall (b : Nat) (M : MM) : OR :=
  (bif cmpB .ne (M 83 0) 0 then (sM (mU M 83 0 ((M 83 0) - 1)) fun M_1 => (sM (mU M_1 83 1 ((w32 (((M_1 83 1) + 12) - 1)).tmod (w32 12))) fun M_3 => (bif inB (M_3 83 1) 12 then (bV (jny_copyFrom b (85 + 6 * ((M_3 83 1)).toNat) M_3) fun M_7 => some (rI 1, M_7)) else none))) else some (rI 0, M))
set_option maxRecDepth 4000 in
theorem memo_recall_ok {Z : Nat × (Nat → Int)} {d : Nat} (hd : 2 ≤ d) {M : MM} {b : Nat} (hb : isJny b) {res : AR × MM} (hf : memo_recall b M = some res) : EX Z d 39 0 (ent 39 [vR 83, vR b]) [] M res := by
  obtain ⟨e9, rfl⟩ : ∃ e9, d = e9 + 1 := ⟨d - 1, by omega⟩
  unfold memo_recall at hf
  show EX Z _ 39 0 [vR 83, vR b] [] M res
  refine ex_pu (ls' := [vR 83, vR b]) (st' := [vR 83]) (dg dc39 0 rfl) rfl rfl ?_
  refine ex_getI (dg dc39 1 rfl) rfl (LOC.st (Nat.le_of_ble_eq_true rfl) rfl) rfl ?_
  refine ex_if (t := 9) (dg dc39 2 rfl) rfl hf (fun _ hf => ?_) (fun _ hf => ?_)
  · refine ex_pu (ls' := [vR 83, vR b]) (st' := [vR 83]) (dg dc39 5 rfl) rfl rfl ?_
    refine ex_pu (ls' := [vR 83, vR b]) (st' := [vR 83, vR 83]) (dg dc39 6 rfl) rfl rfl ?_
    refine ex_getI (dg dc39 7 rfl) rfl (LOC.st (Nat.le_of_ble_eq_true rfl) rfl) rfl ?_
    refine ex_pu (ls' := [vR 83, vR b]) (st' := [vI 1, vI (M 83 0), vR 83]) (dg dc39 8 rfl) rfl rfl ?_
    refine ex_pu (ls' := [vR 83, vR b]) (st' := [vI ((M 83 0) - 1), vR 83]) (dg dc39 9 rfl) rfl rfl ?_
    refine ex_putI (dg dc39 10 rfl) rfl (LOC.st (Nat.le_of_ble_eq_true rfl) rfl) rfl rfl rfl ?_
    refine ex_gen hf (fun M_1 hM_2 hf => ?_)
    refine ex_pu (ls' := [vR 83, vR b]) (st' := [vR 83]) (dg dc39 11 rfl) rfl rfl ?_
    refine ex_pu (ls' := [vR 83, vR b]) (st' := [vR 83, vR 83]) (dg dc39 12 rfl) rfl rfl ?_
    refine ex_getI (dg dc39 13 rfl) rfl (LOC.st (Nat.le_of_ble_eq_true rfl) rfl) rfl ?_
    refine ex_pu (ls' := [vR 83, vR b]) (st' := [vI 12, vI (M_1 83 1), vR 83]) (dg dc39 14 rfl) rfl rfl ?_
    refine ex_pu (ls' := [vR 83, vR b]) (st' := [vI ((M_1 83 1) + 12), vR 83]) (dg dc39 15 rfl) rfl rfl ?_
    refine ex_pu (ls' := [vR 83, vR b]) (st' := [vI 1, vI ((M_1 83 1) + 12), vR 83]) (dg dc39 16 rfl) rfl rfl ?_
    refine ex_pu (ls' := [vR 83, vR b]) (st' := [vI (((M_1 83 1) + 12) - 1), vR 83]) (dg dc39 17 rfl) rfl rfl ?_
    refine ex_pu (ls' := [vR 83, vR b]) (st' := [vI 12, vI (((M_1 83 1) + 12) - 1), vR 83]) (dg dc39 18 rfl) rfl rfl ?_
    refine ex_irem (dg dc39 19 rfl) (by decide +kernel) ?_
    refine ex_putI (dg dc39 20 rfl) rfl (LOC.st (Nat.le_of_ble_eq_true rfl) rfl) rfl rfl rfl ?_
    refine ex_gen hf (fun M_3 hM_4 hf => ?_)
    refine ex_pu (ls' := [vR 83, vR b]) (st' := [vR b]) (dg dc39 21 rfl) rfl rfl ?_
    refine ex_pu (ls' := [vR 83, vR b]) (st' := [vR 83, vR b]) (dg dc39 22 rfl) rfl rfl ?_
    refine ex_getO (dg dc39 23 rfl) rfl (LOC.st (Nat.le_of_ble_eq_true rfl) rfl) rfl ?_
    show EX Z _ 39 _ [vR 83, vR b] [vR 84, vR b] _ _
    refine ex_pu (ls' := [vR 83, vR b]) (st' := [vR 83, vR 84, vR b]) (dg dc39 24 rfl) rfl rfl ?_
    refine ex_getI (dg dc39 25 rfl) rfl (LOC.st (Nat.le_of_ble_eq_true rfl) rfl) rfl ?_
    refine ex_aald (f9 := fun i0 => 85 + 6 * i0.toNat) (dg dc39 26 rfl) (LOC.st (Nat.le_of_ble_eq_true rfl) rfl) rfl ring_el hf (fun hi_5 hf => ?_)
    refine ex_cV (vs := [vR b, vR (85 + 6 * ((M_3 83 1)).toNat)]) (st' := []) (F := (jny_copyFrom b (85 + 6 * ((M_3 83 1)).toNat) M_3)) (Or.inr (Or.inl ⟨rfl, (dg dc39 27 rfl)⟩)) rfl rfl (rk1 (locJny0 hb) rfl) rfl (fun _ r9 => jny_copyFrom_ok (Z := Z) (d := e9) (by omega) hb (jny_ring hi_5)  r9) hf (fun M_7 he_6 hf => ?_)
    refine ex_pu (ls' := [vR 83, vR b]) (st' := [vI 1]) (dg dc39 28 rfl) rfl rfl ?_
    exact ex_ire (dg dc39 29 rfl) rfl hf
  · refine ex_pu (ls' := [vR 83, vR b]) (st' := [vI 0]) (dg dc39 3 rfl) rfl rfl ?_
    exact ex_ire (dg dc39 4 rfl) rfl hf
-- GlassHill$Riddles.canBeHis
def il46 : List (Nat × Instr × Nat) := [(0, .aload_n 0, 1), (1, .getfield 29, 3), (4, .getfield 95, 3), (7, .iconst 2, 1), (8, .iload_n 1, 1), (9, .imul, 1), (10, .iaload, 1), (11, .istore_n 3, 1), (12, .aload_n 0, 1), (13, .getfield 29, 3), (16, .getfield 95, 3), (19, .iconst 2, 1), (20, .iload_n 1, 1), (21, .imul, 1), (22, .iconst 1, 1), (23, .iadd, 1), (24, .iaload, 1), (25, .istore 4, 2), (27, .aload_n 0, 1), (28, .getfield 21, 3), (31, .iload 4, 2), (33, .bipush 10, 2), (35, .iload_n 2, 1), (36, .iadd, 1), (37, .invokevirtual 100, 3), (40, .ifCond .eq 23, 3), (43, .aload_n 0, 1), (44, .getfield 21, 3), (47, .getfield 66, 3), (50, .iload_n 2, 1), (51, .iaload, 1), (52, .bipush 24, 2), (54, .irem, 1), (55, .iload_n 3, 1), (56, .if_icmp .gt 7, 3), (59, .iconst 1, 1), (60, .goto 4, 3), (63, .iconst 0, 1), (64, .ireturn, 1)]
theorem dc46 : dcs (mC 46) il46 := dc_of (by decide +kernel)
def ridd_canBeHis (v1 : Int) (v2 : Int) (M : MM) : OR :=
  (bif inB (2 * v1) 400 then (bif inB ((2 * v1) + 1) 400 then (bI (land_opens 3 (M 2 (((2 * v1) + 1)).toNat) (10 + v2) M) fun z_3 M_2 => (bif cmpB .eq z_3 0 then some (rI 0, M_2) else (bif inB v2 7 then (bif cmpB .gt ((w32 (M_2 15 (v2).toNat)).tmod (w32 24)) (M 2 ((2 * v1)).toNat) then some (rI 0, M_2) else some (rI 1, M_2)) else none))) else none) else none)
set_option maxRecDepth 4000 in
theorem ridd_canBeHis_ok {Z : Nat × (Nat → Int)} {d : Nat} (hd : 1 ≤ d) {M : MM}  {v1 v2 : Int} {res : AR × MM} (hf : ridd_canBeHis v1 v2 M = some res) : EX Z d 46 0 (ent 46 [vR 161, vI v1, vI v2]) [] M res := by
  obtain ⟨e9, rfl⟩ : ∃ e9, d = e9 + 1 := ⟨d - 1, by omega⟩
  unfold ridd_canBeHis at hf
  show EX Z _ 46 0 [vR 161, vI v1, vI v2, vU, vU] [] M res
  refine ex_pu (ls' := [vR 161, vI v1, vI v2, vU, vU]) (st' := [vR 161]) (dg dc46 0 rfl) rfl rfl ?_
  refine ex_getF (dg dc46 1 rfl) rfl (LOC.st (Nat.le_of_ble_eq_true rfl) rfl) rfl ?_
  refine ex_getO (dg dc46 2 rfl) rfl (LOC.st (Nat.le_of_ble_eq_true rfl) rfl) rfl ?_
  show EX Z _ 46 _ [vR 161, vI v1, vI v2, vU, vU] [vR 2] _ _
  refine ex_pu (ls' := [vR 161, vI v1, vI v2, vU, vU]) (st' := [vI 2, vR 2]) (dg dc46 3 rfl) rfl rfl ?_
  refine ex_pu (ls' := [vR 161, vI v1, vI v2, vU, vU]) (st' := [vI v1, vI 2, vR 2]) (dg dc46 4 rfl) rfl rfl ?_
  refine ex_pu (ls' := [vR 161, vI v1, vI v2, vU, vU]) (st' := [vI (2 * v1), vR 2]) (dg dc46 5 rfl) rfl rfl ?_
  refine ex_iald (dg dc46 6 rfl) (LOC.st (Nat.le_of_ble_eq_true rfl) rfl) rfl hf (fun _ hf => ?_)
  refine ex_pu (ls' := [vR 161, vI v1, vI v2, vI (M 2 ((2 * v1)).toNat), vU]) (st' := []) (dg dc46 7 rfl) rfl rfl ?_
  refine ex_pu (ls' := [vR 161, vI v1, vI v2, vI (M 2 ((2 * v1)).toNat), vU]) (st' := [vR 161]) (dg dc46 8 rfl) rfl rfl ?_
  refine ex_getF (dg dc46 9 rfl) rfl (LOC.st (Nat.le_of_ble_eq_true rfl) rfl) rfl ?_
  refine ex_getO (dg dc46 10 rfl) rfl (LOC.st (Nat.le_of_ble_eq_true rfl) rfl) rfl ?_
  show EX Z _ 46 _ [vR 161, vI v1, vI v2, vI (M 2 ((2 * v1)).toNat), vU] [vR 2] _ _
  refine ex_pu (ls' := [vR 161, vI v1, vI v2, vI (M 2 ((2 * v1)).toNat), vU]) (st' := [vI 2, vR 2]) (dg dc46 11 rfl) rfl rfl ?_
  refine ex_pu (ls' := [vR 161, vI v1, vI v2, vI (M 2 ((2 * v1)).toNat), vU]) (st' := [vI v1, vI 2, vR 2]) (dg dc46 12 rfl) rfl rfl ?_
  refine ex_pu (ls' := [vR 161, vI v1, vI v2, vI (M 2 ((2 * v1)).toNat), vU]) (st' := [vI (2 * v1), vR 2]) (dg dc46 13 rfl) rfl rfl ?_
  refine ex_pu (ls' := [vR 161, vI v1, vI v2, vI (M 2 ((2 * v1)).toNat), vU]) (st' := [vI 1, vI (2 * v1), vR 2]) (dg dc46 14 rfl) rfl rfl ?_
  refine ex_pu (ls' := [vR 161, vI v1, vI v2, vI (M 2 ((2 * v1)).toNat), vU]) (st' := [vI ((2 * v1) + 1), vR 2]) (dg dc46 15 rfl) rfl rfl ?_
  refine ex_iald (dg dc46 16 rfl) (LOC.st (Nat.le_of_ble_eq_true rfl) rfl) rfl hf (fun _ hf => ?_)
  refine ex_pu (ls' := [vR 161, vI v1, vI v2, vI (M 2 ((2 * v1)).toNat), vI (M 2 (((2 * v1) + 1)).toNat)]) (st' := []) (dg dc46 17 rfl) rfl rfl ?_
  refine ex_pu (ls' := [vR 161, vI v1, vI v2, vI (M 2 ((2 * v1)).toNat), vI (M 2 (((2 * v1) + 1)).toNat)]) (st' := [vR 161]) (dg dc46 18 rfl) rfl rfl ?_
  refine ex_getF (dg dc46 19 rfl) rfl (LOC.st (Nat.le_of_ble_eq_true rfl) rfl) rfl ?_
  refine ex_pu (ls' := [vR 161, vI v1, vI v2, vI (M 2 ((2 * v1)).toNat), vI (M 2 (((2 * v1) + 1)).toNat)]) (st' := [vI (M 2 (((2 * v1) + 1)).toNat), vR 3]) (dg dc46 20 rfl) rfl rfl ?_
  refine ex_pu (ls' := [vR 161, vI v1, vI v2, vI (M 2 ((2 * v1)).toNat), vI (M 2 (((2 * v1) + 1)).toNat)]) (st' := [vI 10, vI (M 2 (((2 * v1) + 1)).toNat), vR 3]) (dg dc46 21 rfl) rfl rfl ?_
  refine ex_pu (ls' := [vR 161, vI v1, vI v2, vI (M 2 ((2 * v1)).toNat), vI (M 2 (((2 * v1) + 1)).toNat)]) (st' := [vI v2, vI 10, vI (M 2 (((2 * v1) + 1)).toNat), vR 3]) (dg dc46 22 rfl) rfl rfl ?_
  refine ex_pu (ls' := [vR 161, vI v1, vI v2, vI (M 2 ((2 * v1)).toNat), vI (M 2 (((2 * v1) + 1)).toNat)]) (st' := [vI (10 + v2), vI (M 2 (((2 * v1) + 1)).toNat), vR 3]) (dg dc46 23 rfl) rfl rfl ?_
  refine ex_cI (vs := [vR 3, vI (M 2 (((2 * v1) + 1)).toNat), vI (10 + v2)]) (st' := []) (F := (land_opens 3 (M 2 (((2 * v1) + 1)).toNat) (10 + v2) M)) (Or.inr (Or.inl ⟨rfl, (dg dc46 24 rfl)⟩)) rfl rfl (rk1 (LOC.st (Nat.le_of_ble_eq_true rfl) rfl) rfl) rfl (fun _ r9 => land_opens_ok (Z := Z) (d := e9) (by omega) isLand3  r9) hf (fun z_3 M_2 he_1 hf => ?_)
  refine ex_if (t := 63) (dg dc46 25 rfl) rfl hf (fun _ hf => ?_) (fun _ hf => ?_)
  · refine ex_pu (ls' := [vR 161, vI v1, vI v2, vI (M 2 ((2 * v1)).toNat), vI (M 2 (((2 * v1) + 1)).toNat)]) (st' := [vI 0]) (dg dc46 37 rfl) rfl rfl ?_
    exact ex_ire (dg dc46 38 rfl) rfl hf
  · refine ex_pu (ls' := [vR 161, vI v1, vI v2, vI (M 2 ((2 * v1)).toNat), vI (M 2 (((2 * v1) + 1)).toNat)]) (st' := [vR 161]) (dg dc46 26 rfl) rfl rfl ?_
    refine ex_getF (dg dc46 27 rfl) rfl (LOC.st (Nat.le_of_ble_eq_true rfl) rfl) rfl ?_
    refine ex_getO (dg dc46 28 rfl) rfl (LOC.st (Nat.le_of_ble_eq_true rfl) rfl) rfl ?_
    show EX Z _ 46 _ [vR 161, vI v1, vI v2, vI (M 2 ((2 * v1)).toNat), vI (M 2 (((2 * v1) + 1)).toNat)] [vR 15] _ _
    refine ex_pu (ls' := [vR 161, vI v1, vI v2, vI (M 2 ((2 * v1)).toNat), vI (M 2 (((2 * v1) + 1)).toNat)]) (st' := [vI v2, vR 15]) (dg dc46 29 rfl) rfl rfl ?_
    refine ex_iald (dg dc46 30 rfl) (LOC.st (Nat.le_of_ble_eq_true rfl) rfl) rfl hf (fun _ hf => ?_)
    refine ex_pu (ls' := [vR 161, vI v1, vI v2, vI (M 2 ((2 * v1)).toNat), vI (M 2 (((2 * v1) + 1)).toNat)]) (st' := [vI 24, vI (M_2 15 (v2).toNat)]) (dg dc46 31 rfl) rfl rfl ?_
    refine ex_irem (dg dc46 32 rfl) (by decide +kernel) ?_
    refine ex_pu (ls' := [vR 161, vI v1, vI v2, vI (M 2 ((2 * v1)).toNat), vI (M 2 (((2 * v1) + 1)).toNat)]) (st' := [vI (M 2 ((2 * v1)).toNat), vI ((w32 (M_2 15 (v2).toNat)).tmod (w32 24))]) (dg dc46 33 rfl) rfl rfl ?_
    refine ex_icmp (t := 63) (dg dc46 34 rfl) rfl hf (fun _ hf => ?_) (fun _ hf => ?_)
    · refine ex_pu (ls' := [vR 161, vI v1, vI v2, vI (M 2 ((2 * v1)).toNat), vI (M 2 (((2 * v1) + 1)).toNat)]) (st' := [vI 0]) (dg dc46 37 rfl) rfl rfl ?_
      exact ex_ire (dg dc46 38 rfl) rfl hf
    · refine ex_pu (ls' := [vR 161, vI v1, vI v2, vI (M 2 ((2 * v1)).toNat), vI (M 2 (((2 * v1) + 1)).toNat)]) (st' := [vI 1]) (dg dc46 35 rfl) rfl rfl ?_
      refine ex_goto (t := 64) (dg dc46 36 rfl) rfl rfl ?_
      exact ex_ire (dg dc46 38 rfl) rfl hf
-- GlassHill$Riddles.agrees
def il48 : List (Nat × Instr × Nat) := [(0, .iload_n 1, 1), (1, .iload_n 0, 1), (2, .iconst (-1), 1), (3, .ixor, 1), (4, .iand, 1), (5, .ifCond .eq 5, 3), (8, .iconst 0, 1), (9, .ireturn, 1), (10, .iconst 0, 1), (11, .istore 4, 2), (13, .iconst 0, 1), (14, .istore 5, 2), (16, .iload 5, 2), (18, .bipush 16, 2), (20, .if_icmp .ge 26, 3), (23, .iload 5, 2), (25, .iload_n 0, 1), (26, .iand, 1), (27, .iload_n 1, 1), (28, .if_icmp .ne 12, 3), (31, .iload 4, 2), (33, .iconst 1, 1), (34, .iload 5, 2), (36, .ishl, 1), (37, .ior, 1), (38, .istore 4, 2), (40, .iinc 5 1, 3), (43, .goto (-27), 3), (46, .iload_n 2, 1), (47, .iload 4, 2), (49, .iconst (-1), 1), (50, .ixor, 1), (51, .iand, 1), (52, .ifCond .ne 14, 3), (55, .iload_n 3, 1), (56, .iload 4, 2), (58, .iand, 1), (59, .ifCond .ne 7, 3), (62, .iconst 1, 1), (63, .goto 4, 3), (66, .iconst 0, 1), (67, .ireturn, 1)]
theorem dc48 : dcs (mC 48) il48 := dc_of (by decide +kernel)
def ridd_agrees_L16  (v0 v1 v2 v3 : Int) (K1 : Int → MM → OR) : Nat → Int → Int → MM → OR
  | 0, _, _, _ => none
  | n + 1, v4, v5, M => (bif cmpB .ge v5 16 then (K1 v4 M) else (bif cmpB .ne (iAnd v5 v0) v1 then (ridd_agrees_L16 v0 v1 v2 v3 K1 n v4 (v5 + 1) M) else (ridd_agrees_L16 v0 v1 v2 v3 K1 n (iOr v4 (iShl 1 v5)) (v5 + 1) M)))
set_option maxRecDepth 4000 in
theorem ridd_agrees_L16_ok {Z : Nat × (Nat → Int)} {d : Nat} (hd : 0 ≤ d)  {v0 v1 v2 v3 : Int} {K1 : Int → MM → OR} {res : AR × MM} (k1 : ∀ (x4 : Int) (M : MM) (j0 j1 j5 : AV), K1 x4 M = some res → EX Z d 48 46 [j0, j1, vI v2, vI v3, vI x4, j5] [] M res) : ∀ (n : Nat) (v4 v5 : Int) (M : MM), ridd_agrees_L16 v0 v1 v2 v3 K1 n v4 v5 M = some res → EX Z d 48 16 [vI v0, vI v1, vI v2, vI v3, vI v4, vI v5] [] M res := by
  intro n
  induction n with
  | zero =>
    intro v4 v5 M hf
    unfold ridd_agrees_L16 at hf
    cases hf
  | succ n ih =>
    intro v4 v5 M hf
    unfold ridd_agrees_L16 at hf
    refine ex_pu (ls' := [vI v0, vI v1, vI v2, vI v3, vI v4, vI v5]) (st' := [vI v5]) (dg dc48 12 rfl) rfl rfl ?_
    refine ex_pu (ls' := [vI v0, vI v1, vI v2, vI v3, vI v4, vI v5]) (st' := [vI 16, vI v5]) (dg dc48 13 rfl) rfl rfl ?_
    refine ex_icmp (t := 46) (dg dc48 14 rfl) rfl hf (fun _ hf => ?_) (fun _ hf => ?_)
    · exact k1 v4 M _ _ _ hf
    · refine ex_pu (ls' := [vI v0, vI v1, vI v2, vI v3, vI v4, vI v5]) (st' := [vI v5]) (dg dc48 15 rfl) rfl rfl ?_
      refine ex_pu (ls' := [vI v0, vI v1, vI v2, vI v3, vI v4, vI v5]) (st' := [vI v0, vI v5]) (dg dc48 16 rfl) rfl rfl ?_
      refine ex_pu (ls' := [vI v0, vI v1, vI v2, vI v3, vI v4, vI v5]) (st' := [vI (iAnd v5 v0)]) (dg dc48 17 rfl) rfl rfl ?_
      refine ex_pu (ls' := [vI v0, vI v1, vI v2, vI v3, vI v4, vI v5]) (st' := [vI v1, vI (iAnd v5 v0)]) (dg dc48 18 rfl) rfl rfl ?_
      refine ex_icmp (t := 40) (dg dc48 19 rfl) rfl hf (fun _ hf => ?_) (fun _ hf => ?_)
      · refine ex_pu (ls' := [vI v0, vI v1, vI v2, vI v3, vI v4, vI (v5 + 1)]) (st' := []) (dg dc48 26 rfl) rfl rfl ?_
        refine ex_goto (t := 16) (dg dc48 27 rfl) rfl rfl ?_
        exact ih v4 (v5 + 1) M hf
      · refine ex_pu (ls' := [vI v0, vI v1, vI v2, vI v3, vI v4, vI v5]) (st' := [vI v4]) (dg dc48 20 rfl) rfl rfl ?_
        refine ex_pu (ls' := [vI v0, vI v1, vI v2, vI v3, vI v4, vI v5]) (st' := [vI 1, vI v4]) (dg dc48 21 rfl) rfl rfl ?_
        refine ex_pu (ls' := [vI v0, vI v1, vI v2, vI v3, vI v4, vI v5]) (st' := [vI v5, vI 1, vI v4]) (dg dc48 22 rfl) rfl rfl ?_
        refine ex_pu (ls' := [vI v0, vI v1, vI v2, vI v3, vI v4, vI v5]) (st' := [vI (iShl 1 v5), vI v4]) (dg dc48 23 rfl) rfl rfl ?_
        refine ex_pu (ls' := [vI v0, vI v1, vI v2, vI v3, vI v4, vI v5]) (st' := [vI (iOr v4 (iShl 1 v5))]) (dg dc48 24 rfl) rfl rfl ?_
        refine ex_pu (ls' := [vI v0, vI v1, vI v2, vI v3, vI (iOr v4 (iShl 1 v5)), vI v5]) (st' := []) (dg dc48 25 rfl) rfl rfl ?_
        refine ex_pu (ls' := [vI v0, vI v1, vI v2, vI v3, vI (iOr v4 (iShl 1 v5)), vI (v5 + 1)]) (st' := []) (dg dc48 26 rfl) rfl rfl ?_
        refine ex_goto (t := 16) (dg dc48 27 rfl) rfl rfl ?_
        exact ih (iOr v4 (iShl 1 v5)) (v5 + 1) M hf
def ridd_agrees (v0 : Int) (v1 : Int) (v2 : Int) (v3 : Int) (M : MM) : OR :=
  (bif cmpB .eq (iAnd v1 (iXor v0 (-1))) 0 then (ridd_agrees_L16 v0 v1 v2 v3 (fun v4_1 M_2 => (bif cmpB .ne (iAnd v2 (iXor v4_1 (-1))) 0 then some (rI 0, M_2) else (bif cmpB .ne (iAnd v3 v4_1) 0 then some (rI 0, M_2) else some (rI 1, M_2)))) FU 0 0 M) else some (rI 0, M))
set_option maxRecDepth 4000 in
theorem ridd_agrees_ok {Z : Nat × (Nat → Int)} {d : Nat} (hd : 0 ≤ d) {M : MM}  {v0 v1 v2 v3 : Int} {res : AR × MM} (hf : ridd_agrees v0 v1 v2 v3 M = some res) : EX Z d 48 0 (ent 48 [vI v0, vI v1, vI v2, vI v3]) [] M res := by
  unfold ridd_agrees at hf
  show EX Z _ 48 0 [vI v0, vI v1, vI v2, vI v3, vU, vU] [] M res
  refine ex_pu (ls' := [vI v0, vI v1, vI v2, vI v3, vU, vU]) (st' := [vI v1]) (dg dc48 0 rfl) rfl rfl ?_
  refine ex_pu (ls' := [vI v0, vI v1, vI v2, vI v3, vU, vU]) (st' := [vI v0, vI v1]) (dg dc48 1 rfl) rfl rfl ?_
  refine ex_pu (ls' := [vI v0, vI v1, vI v2, vI v3, vU, vU]) (st' := [vI (-1), vI v0, vI v1]) (dg dc48 2 rfl) rfl rfl ?_
  refine ex_pu (ls' := [vI v0, vI v1, vI v2, vI v3, vU, vU]) (st' := [vI (iXor v0 (-1)), vI v1]) (dg dc48 3 rfl) rfl rfl ?_
  refine ex_pu (ls' := [vI v0, vI v1, vI v2, vI v3, vU, vU]) (st' := [vI (iAnd v1 (iXor v0 (-1)))]) (dg dc48 4 rfl) rfl rfl ?_
  refine ex_if (t := 10) (dg dc48 5 rfl) rfl hf (fun _ hf => ?_) (fun _ hf => ?_)
  · refine ex_pu (ls' := [vI v0, vI v1, vI v2, vI v3, vU, vU]) (st' := [vI 0]) (dg dc48 8 rfl) rfl rfl ?_
    refine ex_pu (ls' := [vI v0, vI v1, vI v2, vI v3, vI 0, vU]) (st' := []) (dg dc48 9 rfl) rfl rfl ?_
    refine ex_pu (ls' := [vI v0, vI v1, vI v2, vI v3, vI 0, vU]) (st' := [vI 0]) (dg dc48 10 rfl) rfl rfl ?_
    refine ex_pu (ls' := [vI v0, vI v1, vI v2, vI v3, vI 0, vI 0]) (st' := []) (dg dc48 11 rfl) rfl rfl ?_
    refine ridd_agrees_L16_ok hd  ?_ FU 0 0 M hf
    · intro v4_1 M_2 j0_3 j1_4 j5_5 hf
      refine ex_pu (ls' := [j0_3, j1_4, vI v2, vI v3, vI v4_1, j5_5]) (st' := [vI v2]) (dg dc48 28 rfl) rfl rfl ?_
      refine ex_pu (ls' := [j0_3, j1_4, vI v2, vI v3, vI v4_1, j5_5]) (st' := [vI v4_1, vI v2]) (dg dc48 29 rfl) rfl rfl ?_
      refine ex_pu (ls' := [j0_3, j1_4, vI v2, vI v3, vI v4_1, j5_5]) (st' := [vI (-1), vI v4_1, vI v2]) (dg dc48 30 rfl) rfl rfl ?_
      refine ex_pu (ls' := [j0_3, j1_4, vI v2, vI v3, vI v4_1, j5_5]) (st' := [vI (iXor v4_1 (-1)), vI v2]) (dg dc48 31 rfl) rfl rfl ?_
      refine ex_pu (ls' := [j0_3, j1_4, vI v2, vI v3, vI v4_1, j5_5]) (st' := [vI (iAnd v2 (iXor v4_1 (-1)))]) (dg dc48 32 rfl) rfl rfl ?_
      refine ex_if (t := 66) (dg dc48 33 rfl) rfl hf (fun _ hf => ?_) (fun _ hf => ?_)
      · refine ex_pu (ls' := [j0_3, j1_4, vI v2, vI v3, vI v4_1, j5_5]) (st' := [vI 0]) (dg dc48 40 rfl) rfl rfl ?_
        exact ex_ire (dg dc48 41 rfl) rfl hf
      · refine ex_pu (ls' := [j0_3, j1_4, vI v2, vI v3, vI v4_1, j5_5]) (st' := [vI v3]) (dg dc48 34 rfl) rfl rfl ?_
        refine ex_pu (ls' := [j0_3, j1_4, vI v2, vI v3, vI v4_1, j5_5]) (st' := [vI v4_1, vI v3]) (dg dc48 35 rfl) rfl rfl ?_
        refine ex_pu (ls' := [j0_3, j1_4, vI v2, vI v3, vI v4_1, j5_5]) (st' := [vI (iAnd v3 v4_1)]) (dg dc48 36 rfl) rfl rfl ?_
        refine ex_if (t := 66) (dg dc48 37 rfl) rfl hf (fun _ hf => ?_) (fun _ hf => ?_)
        · refine ex_pu (ls' := [j0_3, j1_4, vI v2, vI v3, vI v4_1, j5_5]) (st' := [vI 0]) (dg dc48 40 rfl) rfl rfl ?_
          exact ex_ire (dg dc48 41 rfl) rfl hf
        · refine ex_pu (ls' := [j0_3, j1_4, vI v2, vI v3, vI v4_1, j5_5]) (st' := [vI 1]) (dg dc48 38 rfl) rfl rfl ?_
          refine ex_goto (t := 67) (dg dc48 39 rfl) rfl rfl ?_
          exact ex_ire (dg dc48 41 rfl) rfl hf
  · refine ex_pu (ls' := [vI v0, vI v1, vI v2, vI v3, vU, vU]) (st' := [vI 0]) (dg dc48 6 rfl) rfl rfl ?_
    exact ex_ire (dg dc48 7 rfl) rfl hf
-- GlassHill$Riddles.mostShirts
def il49 : List (Nat × Instr × Nat) := [(0, .iconst 0, 1), (1, .istore 4, 2), (3, .iconst 0, 1), (4, .istore 5, 2), (6, .iconst 0, 1), (7, .istore 6, 2), (9, .iload 6, 2), (11, .iload_n 0, 1), (12, .if_icmp .ge 42, 3), (15, .lload_n 2, 1), (16, .iload 6, 2), (18, .lushr, 1), (19, .lconst 1, 1), (20, .land, 1), (21, .lconst 1, 1), (22, .lcmp, 1), (23, .ifCond .ne 7, 3), (26, .iconst 0, 1), (27, .goto 7, 3), (30, .iload 5, 2), (32, .iconst 1, 1), (33, .iadd, 1), (34, .istore 5, 2), (36, .iload 5, 2), (38, .iload_n 1, 1), (39, .if_icmp .lt 9, 3), (42, .iinc 4 1, 3), (45, .iconst 0, 1), (46, .istore 5, 2), (48, .iinc 6 1, 3), (51, .goto (-42), 3), (54, .iload 4, 2), (56, .ireturn, 1)]
theorem dc49 : dcs (mC 49) il49 := dc_of (by decide +kernel)
def ridd_mostShirts_L9  (v0 v1 v2 : Int) (K1 : Int → MM → OR) : Nat → Int → Int → Int → MM → OR
  | 0, _, _, _, _ => none
  | n + 1, v4, v5, v6, M => (bif cmpB .ge v6 v0 then (K1 v4 M) else (bif cmpB .ne (lCmp (lAnd (lUshr v2 v6) 1) 1) 0 then (bif cmpB .lt (v5 + 1) v1 then (ridd_mostShirts_L9 v0 v1 v2 K1 n v4 (v5 + 1) (v6 + 1) M) else (ridd_mostShirts_L9 v0 v1 v2 K1 n (v4 + 1) 0 (v6 + 1) M)) else (bif cmpB .lt 0 v1 then (ridd_mostShirts_L9 v0 v1 v2 K1 n v4 0 (v6 + 1) M) else (ridd_mostShirts_L9 v0 v1 v2 K1 n (v4 + 1) 0 (v6 + 1) M))))
set_option maxRecDepth 4000 in
theorem ridd_mostShirts_L9_ok {Z : Nat × (Nat → Int)} {d : Nat} (hd : 0 ≤ d)  {v0 v1 v2 : Int} {K1 : Int → MM → OR} {res : AR × MM} (k1 : ∀ (x4 : Int) (M : MM) (j0 j1 j2 j3 j5 j6 : AV), K1 x4 M = some res → EX Z d 49 54 [j0, j1, j2, j3, vI x4, j5, j6] [] M res) : ∀ (n : Nat) (v4 v5 v6 : Int) (M : MM), ridd_mostShirts_L9 v0 v1 v2 K1 n v4 v5 v6 M = some res → EX Z d 49 9 [vI v0, vI v1, vJ v2, vU, vI v4, vI v5, vI v6] [] M res := by
  intro n
  induction n with
  | zero =>
    intro v4 v5 v6 M hf
    unfold ridd_mostShirts_L9 at hf
    cases hf
  | succ n ih =>
    intro v4 v5 v6 M hf
    unfold ridd_mostShirts_L9 at hf
    refine ex_pu (ls' := [vI v0, vI v1, vJ v2, vU, vI v4, vI v5, vI v6]) (st' := [vI v6]) (dg dc49 6 rfl) rfl rfl ?_
    refine ex_pu (ls' := [vI v0, vI v1, vJ v2, vU, vI v4, vI v5, vI v6]) (st' := [vI v0, vI v6]) (dg dc49 7 rfl) rfl rfl ?_
    refine ex_icmp (t := 54) (dg dc49 8 rfl) rfl hf (fun _ hf => ?_) (fun _ hf => ?_)
    · exact k1 v4 M _ _ _ _ _ _ hf
    · refine ex_pu (ls' := [vI v0, vI v1, vJ v2, vU, vI v4, vI v5, vI v6]) (st' := [vJ v2]) (dg dc49 9 rfl) rfl rfl ?_
      refine ex_pu (ls' := [vI v0, vI v1, vJ v2, vU, vI v4, vI v5, vI v6]) (st' := [vI v6, vJ v2]) (dg dc49 10 rfl) rfl rfl ?_
      refine ex_pu (ls' := [vI v0, vI v1, vJ v2, vU, vI v4, vI v5, vI v6]) (st' := [vJ (lUshr v2 v6)]) (dg dc49 11 rfl) rfl rfl ?_
      refine ex_pu (ls' := [vI v0, vI v1, vJ v2, vU, vI v4, vI v5, vI v6]) (st' := [vJ 1, vJ (lUshr v2 v6)]) (dg dc49 12 rfl) rfl rfl ?_
      refine ex_pu (ls' := [vI v0, vI v1, vJ v2, vU, vI v4, vI v5, vI v6]) (st' := [vJ (lAnd (lUshr v2 v6) 1)]) (dg dc49 13 rfl) rfl rfl ?_
      refine ex_pu (ls' := [vI v0, vI v1, vJ v2, vU, vI v4, vI v5, vI v6]) (st' := [vJ 1, vJ (lAnd (lUshr v2 v6) 1)]) (dg dc49 14 rfl) rfl rfl ?_
      refine ex_pu (ls' := [vI v0, vI v1, vJ v2, vU, vI v4, vI v5, vI v6]) (st' := [vI (lCmp (lAnd (lUshr v2 v6) 1) 1)]) (dg dc49 15 rfl) rfl rfl ?_
      refine ex_if (t := 30) (dg dc49 16 rfl) rfl hf (fun _ hf => ?_) (fun _ hf => ?_)
      · refine ex_pu (ls' := [vI v0, vI v1, vJ v2, vU, vI v4, vI v5, vI v6]) (st' := [vI v5]) (dg dc49 19 rfl) rfl rfl ?_
        refine ex_pu (ls' := [vI v0, vI v1, vJ v2, vU, vI v4, vI v5, vI v6]) (st' := [vI 1, vI v5]) (dg dc49 20 rfl) rfl rfl ?_
        refine ex_pu (ls' := [vI v0, vI v1, vJ v2, vU, vI v4, vI v5, vI v6]) (st' := [vI (v5 + 1)]) (dg dc49 21 rfl) rfl rfl ?_
        refine ex_pu (ls' := [vI v0, vI v1, vJ v2, vU, vI v4, vI (v5 + 1), vI v6]) (st' := []) (dg dc49 22 rfl) rfl rfl ?_
        refine ex_pu (ls' := [vI v0, vI v1, vJ v2, vU, vI v4, vI (v5 + 1), vI v6]) (st' := [vI (v5 + 1)]) (dg dc49 23 rfl) rfl rfl ?_
        refine ex_pu (ls' := [vI v0, vI v1, vJ v2, vU, vI v4, vI (v5 + 1), vI v6]) (st' := [vI v1, vI (v5 + 1)]) (dg dc49 24 rfl) rfl rfl ?_
        refine ex_icmp (t := 48) (dg dc49 25 rfl) rfl hf (fun _ hf => ?_) (fun _ hf => ?_)
        · refine ex_pu (ls' := [vI v0, vI v1, vJ v2, vU, vI v4, vI (v5 + 1), vI (v6 + 1)]) (st' := []) (dg dc49 29 rfl) rfl rfl ?_
          refine ex_goto (t := 9) (dg dc49 30 rfl) rfl rfl ?_
          exact ih v4 (v5 + 1) (v6 + 1) M hf
        · refine ex_pu (ls' := [vI v0, vI v1, vJ v2, vU, vI (v4 + 1), vI (v5 + 1), vI v6]) (st' := []) (dg dc49 26 rfl) rfl rfl ?_
          refine ex_pu (ls' := [vI v0, vI v1, vJ v2, vU, vI (v4 + 1), vI (v5 + 1), vI v6]) (st' := [vI 0]) (dg dc49 27 rfl) rfl rfl ?_
          refine ex_pu (ls' := [vI v0, vI v1, vJ v2, vU, vI (v4 + 1), vI 0, vI v6]) (st' := []) (dg dc49 28 rfl) rfl rfl ?_
          refine ex_pu (ls' := [vI v0, vI v1, vJ v2, vU, vI (v4 + 1), vI 0, vI (v6 + 1)]) (st' := []) (dg dc49 29 rfl) rfl rfl ?_
          refine ex_goto (t := 9) (dg dc49 30 rfl) rfl rfl ?_
          exact ih (v4 + 1) 0 (v6 + 1) M hf
      · refine ex_pu (ls' := [vI v0, vI v1, vJ v2, vU, vI v4, vI v5, vI v6]) (st' := [vI 0]) (dg dc49 17 rfl) rfl rfl ?_
        refine ex_goto (t := 34) (dg dc49 18 rfl) rfl rfl ?_
        refine ex_pu (ls' := [vI v0, vI v1, vJ v2, vU, vI v4, vI 0, vI v6]) (st' := []) (dg dc49 22 rfl) rfl rfl ?_
        refine ex_pu (ls' := [vI v0, vI v1, vJ v2, vU, vI v4, vI 0, vI v6]) (st' := [vI 0]) (dg dc49 23 rfl) rfl rfl ?_
        refine ex_pu (ls' := [vI v0, vI v1, vJ v2, vU, vI v4, vI 0, vI v6]) (st' := [vI v1, vI 0]) (dg dc49 24 rfl) rfl rfl ?_
        refine ex_icmp (t := 48) (dg dc49 25 rfl) rfl hf (fun _ hf => ?_) (fun _ hf => ?_)
        · refine ex_pu (ls' := [vI v0, vI v1, vJ v2, vU, vI v4, vI 0, vI (v6 + 1)]) (st' := []) (dg dc49 29 rfl) rfl rfl ?_
          refine ex_goto (t := 9) (dg dc49 30 rfl) rfl rfl ?_
          exact ih v4 0 (v6 + 1) M hf
        · refine ex_pu (ls' := [vI v0, vI v1, vJ v2, vU, vI (v4 + 1), vI 0, vI v6]) (st' := []) (dg dc49 26 rfl) rfl rfl ?_
          refine ex_pu (ls' := [vI v0, vI v1, vJ v2, vU, vI (v4 + 1), vI 0, vI v6]) (st' := [vI 0]) (dg dc49 27 rfl) rfl rfl ?_
          refine ex_pu (ls' := [vI v0, vI v1, vJ v2, vU, vI (v4 + 1), vI 0, vI v6]) (st' := []) (dg dc49 28 rfl) rfl rfl ?_
          refine ex_pu (ls' := [vI v0, vI v1, vJ v2, vU, vI (v4 + 1), vI 0, vI (v6 + 1)]) (st' := []) (dg dc49 29 rfl) rfl rfl ?_
          refine ex_goto (t := 9) (dg dc49 30 rfl) rfl rfl ?_
          exact ih (v4 + 1) 0 (v6 + 1) M hf
def ridd_mostShirts (v0 : Int) (v1 : Int) (v2 : Int) (M : MM) : OR :=
  (ridd_mostShirts_L9 v0 v1 v2 (fun v4_1 M_2 => some (rI v4_1, M_2)) FU 0 0 0 M)
set_option maxRecDepth 4000 in
theorem ridd_mostShirts_ok {Z : Nat × (Nat → Int)} {d : Nat} (hd : 0 ≤ d) {M : MM}  {v0 v1 v2 : Int} {res : AR × MM} (hf : ridd_mostShirts v0 v1 v2 M = some res) : EX Z d 49 0 (ent 49 [vI v0, vI v1, vJ v2]) [] M res := by
  unfold ridd_mostShirts at hf
  show EX Z _ 49 0 [vI v0, vI v1, vJ v2, vU, vU, vU, vU] [] M res
  refine ex_pu (ls' := [vI v0, vI v1, vJ v2, vU, vU, vU, vU]) (st' := [vI 0]) (dg dc49 0 rfl) rfl rfl ?_
  refine ex_pu (ls' := [vI v0, vI v1, vJ v2, vU, vI 0, vU, vU]) (st' := []) (dg dc49 1 rfl) rfl rfl ?_
  refine ex_pu (ls' := [vI v0, vI v1, vJ v2, vU, vI 0, vU, vU]) (st' := [vI 0]) (dg dc49 2 rfl) rfl rfl ?_
  refine ex_pu (ls' := [vI v0, vI v1, vJ v2, vU, vI 0, vI 0, vU]) (st' := []) (dg dc49 3 rfl) rfl rfl ?_
  refine ex_pu (ls' := [vI v0, vI v1, vJ v2, vU, vI 0, vI 0, vU]) (st' := [vI 0]) (dg dc49 4 rfl) rfl rfl ?_
  refine ex_pu (ls' := [vI v0, vI v1, vJ v2, vU, vI 0, vI 0, vI 0]) (st' := []) (dg dc49 5 rfl) rfl rfl ?_
  refine ridd_mostShirts_L9_ok hd  ?_ FU 0 0 0 M hf
  · intro v4_1 M_2 j0_3 j1_4 j2_5 j3_6 j5_7 j6_8 hf
    refine ex_pu (ls' := [j0_3, j1_4, j2_5, j3_6, vI v4_1, j5_7, j6_8]) (st' := [vI v4_1]) (dg dc49 31 rfl) rfl rfl ?_
    exact ex_ire (dg dc49 32 rfl) rfl hf
-- GlassHill$Riddles.mostShirtsDumb
def il50 : List (Nat × Instr × Nat) := [(0, .iload_n 0, 1), (1, .iload_n 1, 1), (2, .lload_n 2, 1), (3, .invokestatic 107, 3), (6, .istore 4, 2), (8, .iconst 0, 1), (9, .istore 5, 2), (11, .iload 5, 2), (13, .iload_n 0, 1), (14, .if_icmp .ge 42, 3), (17, .lload_n 2, 1), (18, .iload 5, 2), (20, .lushr, 1), (21, .lconst 1, 1), (22, .land, 1), (23, .lconst 1, 1), (24, .lcmp, 1), (25, .ifCond .ne 25, 3), (28, .iload 4, 2), (30, .iload_n 0, 1), (31, .iload_n 1, 1), (32, .lload_n 2, 1), (33, .lconst 1, 1), (34, .iload 5, 2), (36, .lshl, 1), (37, .ldc2_w 111, 3), (40, .lxor, 1), (41, .land, 1), (42, .invokestatic 107, 3), (45, .invokestatic 69, 3), (48, .istore 4, 2), (50, .iinc 5 1, 3), (53, .goto (-42), 3), (56, .iload 4, 2), (58, .ireturn, 1)]
theorem dc50 : dcs (mC 50) il50 := dc_of (by decide +kernel)
def ridd_mostShirtsDumb_L11  (v0 v1 v2 : Int) (K1 : Int → MM → OR) : Nat → Int → Int → MM → OR
  | 0, _, _, _ => none
  | n + 1, v4, v5, M => (bif cmpB .ge v5 v0 then (K1 v4 M) else (bif cmpB .ne (lCmp (lAnd (lUshr v2 v5) 1) 1) 0 then (ridd_mostShirtsDumb_L11 v0 v1 v2 K1 n v4 (v5 + 1) M) else (bI (ridd_mostShirts v0 v1 (lAnd v2 (lXor (lShl 1 v5) (-1))) M) fun z_6 M_5 => (ridd_mostShirtsDumb_L11 v0 v1 v2 K1 n (imax v4 z_6) (v5 + 1) M_5))))
set_option maxRecDepth 4000 in
theorem ridd_mostShirtsDumb_L11_ok {Z : Nat × (Nat → Int)} {d : Nat} (hd : 1 ≤ d)  {v0 v1 v2 : Int} {K1 : Int → MM → OR} {res : AR × MM} (k1 : ∀ (x4 : Int) (M : MM) (j0 j1 j2 j3 j5 : AV), K1 x4 M = some res → EX Z d 50 56 [j0, j1, j2, j3, vI x4, j5] [] M res) : ∀ (n : Nat) (v4 v5 : Int) (M : MM), ridd_mostShirtsDumb_L11 v0 v1 v2 K1 n v4 v5 M = some res → EX Z d 50 11 [vI v0, vI v1, vJ v2, vU, vI v4, vI v5] [] M res := by
  obtain ⟨e9, rfl⟩ : ∃ e9, d = e9 + 1 := ⟨d - 1, by omega⟩
  intro n
  induction n with
  | zero =>
    intro v4 v5 M hf
    unfold ridd_mostShirtsDumb_L11 at hf
    cases hf
  | succ n ih =>
    intro v4 v5 M hf
    unfold ridd_mostShirtsDumb_L11 at hf
    refine ex_pu (ls' := [vI v0, vI v1, vJ v2, vU, vI v4, vI v5]) (st' := [vI v5]) (dg dc50 7 rfl) rfl rfl ?_
    refine ex_pu (ls' := [vI v0, vI v1, vJ v2, vU, vI v4, vI v5]) (st' := [vI v0, vI v5]) (dg dc50 8 rfl) rfl rfl ?_
    refine ex_icmp (t := 56) (dg dc50 9 rfl) rfl hf (fun _ hf => ?_) (fun _ hf => ?_)
    · exact k1 v4 M _ _ _ _ _ hf
    · refine ex_pu (ls' := [vI v0, vI v1, vJ v2, vU, vI v4, vI v5]) (st' := [vJ v2]) (dg dc50 10 rfl) rfl rfl ?_
      refine ex_pu (ls' := [vI v0, vI v1, vJ v2, vU, vI v4, vI v5]) (st' := [vI v5, vJ v2]) (dg dc50 11 rfl) rfl rfl ?_
      refine ex_pu (ls' := [vI v0, vI v1, vJ v2, vU, vI v4, vI v5]) (st' := [vJ (lUshr v2 v5)]) (dg dc50 12 rfl) rfl rfl ?_
      refine ex_pu (ls' := [vI v0, vI v1, vJ v2, vU, vI v4, vI v5]) (st' := [vJ 1, vJ (lUshr v2 v5)]) (dg dc50 13 rfl) rfl rfl ?_
      refine ex_pu (ls' := [vI v0, vI v1, vJ v2, vU, vI v4, vI v5]) (st' := [vJ (lAnd (lUshr v2 v5) 1)]) (dg dc50 14 rfl) rfl rfl ?_
      refine ex_pu (ls' := [vI v0, vI v1, vJ v2, vU, vI v4, vI v5]) (st' := [vJ 1, vJ (lAnd (lUshr v2 v5) 1)]) (dg dc50 15 rfl) rfl rfl ?_
      refine ex_pu (ls' := [vI v0, vI v1, vJ v2, vU, vI v4, vI v5]) (st' := [vI (lCmp (lAnd (lUshr v2 v5) 1) 1)]) (dg dc50 16 rfl) rfl rfl ?_
      refine ex_if (t := 50) (dg dc50 17 rfl) rfl hf (fun _ hf => ?_) (fun _ hf => ?_)
      · refine ex_pu (ls' := [vI v0, vI v1, vJ v2, vU, vI v4, vI (v5 + 1)]) (st' := []) (dg dc50 31 rfl) rfl rfl ?_
        refine ex_goto (t := 11) (dg dc50 32 rfl) rfl rfl ?_
        exact ih v4 (v5 + 1) M hf
      · refine ex_pu (ls' := [vI v0, vI v1, vJ v2, vU, vI v4, vI v5]) (st' := [vI v4]) (dg dc50 18 rfl) rfl rfl ?_
        refine ex_pu (ls' := [vI v0, vI v1, vJ v2, vU, vI v4, vI v5]) (st' := [vI v0, vI v4]) (dg dc50 19 rfl) rfl rfl ?_
        refine ex_pu (ls' := [vI v0, vI v1, vJ v2, vU, vI v4, vI v5]) (st' := [vI v1, vI v0, vI v4]) (dg dc50 20 rfl) rfl rfl ?_
        refine ex_pu (ls' := [vI v0, vI v1, vJ v2, vU, vI v4, vI v5]) (st' := [vJ v2, vI v1, vI v0, vI v4]) (dg dc50 21 rfl) rfl rfl ?_
        refine ex_pu (ls' := [vI v0, vI v1, vJ v2, vU, vI v4, vI v5]) (st' := [vJ 1, vJ v2, vI v1, vI v0, vI v4]) (dg dc50 22 rfl) rfl rfl ?_
        refine ex_pu (ls' := [vI v0, vI v1, vJ v2, vU, vI v4, vI v5]) (st' := [vI v5, vJ 1, vJ v2, vI v1, vI v0, vI v4]) (dg dc50 23 rfl) rfl rfl ?_
        refine ex_pu (ls' := [vI v0, vI v1, vJ v2, vU, vI v4, vI v5]) (st' := [vJ (lShl 1 v5), vJ v2, vI v1, vI v0, vI v4]) (dg dc50 24 rfl) rfl rfl ?_
        refine ex_ldc2 (dg dc50 25 rfl) rfl ?_
        refine ex_pu (ls' := [vI v0, vI v1, vJ v2, vU, vI v4, vI v5]) (st' := [vJ (lXor (lShl 1 v5) (-1)), vJ v2, vI v1, vI v0, vI v4]) (dg dc50 26 rfl) rfl rfl ?_
        refine ex_pu (ls' := [vI v0, vI v1, vJ v2, vU, vI v4, vI v5]) (st' := [vJ (lAnd v2 (lXor (lShl 1 v5) (-1))), vI v1, vI v0, vI v4]) (dg dc50 27 rfl) rfl rfl ?_
        refine ex_cI (vs := [vI v0, vI v1, vJ (lAnd v2 (lXor (lShl 1 v5) (-1)))]) (st' := [vI v4]) (F := (ridd_mostShirts v0 v1 (lAnd v2 (lXor (lShl 1 v5) (-1))) M)) (Or.inl ⟨rfl, (dg dc50 28 rfl)⟩) rfl rfl (Or.inl rfl) rfl (fun _ r9 => ridd_mostShirts_ok (Z := Z) (d := e9) (by omega)  r9) hf (fun z_6 M_5 he_4 hf => ?_)
        refine ex_max (dg dc50 29 rfl) rfl rfl ?_
        refine ex_pu (ls' := [vI v0, vI v1, vJ v2, vU, vI (imax v4 z_6), vI v5]) (st' := []) (dg dc50 30 rfl) rfl rfl ?_
        refine ex_pu (ls' := [vI v0, vI v1, vJ v2, vU, vI (imax v4 z_6), vI (v5 + 1)]) (st' := []) (dg dc50 31 rfl) rfl rfl ?_
        refine ex_goto (t := 11) (dg dc50 32 rfl) rfl rfl ?_
        exact ih (imax v4 z_6) (v5 + 1) M_5 hf
def ridd_mostShirtsDumb (v0 : Int) (v1 : Int) (v2 : Int) (M : MM) : OR :=
  (bI (ridd_mostShirts v0 v1 v2 M) fun z_3 M_2 => (ridd_mostShirtsDumb_L11 v0 v1 v2 (fun v4_7 M_8 => some (rI v4_7, M_8)) FU z_3 0 M_2))
set_option maxRecDepth 4000 in
theorem ridd_mostShirtsDumb_ok {Z : Nat × (Nat → Int)} {d : Nat} (hd : 1 ≤ d) {M : MM}  {v0 v1 v2 : Int} {res : AR × MM} (hf : ridd_mostShirtsDumb v0 v1 v2 M = some res) : EX Z d 50 0 (ent 50 [vI v0, vI v1, vJ v2]) [] M res := by
  obtain ⟨e9, rfl⟩ : ∃ e9, d = e9 + 1 := ⟨d - 1, by omega⟩
  unfold ridd_mostShirtsDumb at hf
  show EX Z _ 50 0 [vI v0, vI v1, vJ v2, vU, vU, vU] [] M res
  refine ex_pu (ls' := [vI v0, vI v1, vJ v2, vU, vU, vU]) (st' := [vI v0]) (dg dc50 0 rfl) rfl rfl ?_
  refine ex_pu (ls' := [vI v0, vI v1, vJ v2, vU, vU, vU]) (st' := [vI v1, vI v0]) (dg dc50 1 rfl) rfl rfl ?_
  refine ex_pu (ls' := [vI v0, vI v1, vJ v2, vU, vU, vU]) (st' := [vJ v2, vI v1, vI v0]) (dg dc50 2 rfl) rfl rfl ?_
  refine ex_cI (vs := [vI v0, vI v1, vJ v2]) (st' := []) (F := (ridd_mostShirts v0 v1 v2 M)) (Or.inl ⟨rfl, (dg dc50 3 rfl)⟩) rfl rfl (Or.inl rfl) rfl (fun _ r9 => ridd_mostShirts_ok (Z := Z) (d := e9) (by omega)  r9) hf (fun z_3 M_2 he_1 hf => ?_)
  refine ex_pu (ls' := [vI v0, vI v1, vJ v2, vU, vI z_3, vU]) (st' := []) (dg dc50 4 rfl) rfl rfl ?_
  refine ex_pu (ls' := [vI v0, vI v1, vJ v2, vU, vI z_3, vU]) (st' := [vI 0]) (dg dc50 5 rfl) rfl rfl ?_
  refine ex_pu (ls' := [vI v0, vI v1, vJ v2, vU, vI z_3, vI 0]) (st' := []) (dg dc50 6 rfl) rfl rfl ?_
  refine ridd_mostShirtsDumb_L11_ok hd  ?_ FU z_3 0 M_2 hf
  · intro v4_7 M_8 j0_9 j1_10 j2_11 j3_12 j5_13 hf
    refine ex_pu (ls' := [j0_9, j1_10, j2_11, j3_12, vI v4_7, j5_13]) (st' := [vI v4_7]) (dg dc50 33 rfl) rfl rfl ?_
    exact ex_ire (dg dc50 34 rfl) rfl hf
-- GlassHill$Search.firstState
def il54 : List (Nat × Instr × Nat) := [(0, .aload_n 0, 1), (1, .getfield 40, 3), (4, .getfield 111, 3), (7, .i2l, 1), (8, .aload_n 0, 1), (9, .getfield 40, 3), (12, .getfield 112, 3), (15, .i2l, 1), (16, .bipush 10, 2), (18, .lshl, 1), (19, .lor, 1), (20, .aload_n 0, 1), (21, .getfield 40, 3), (24, .getfield 115, 3), (27, .i2l, 1), (28, .bipush 30, 2), (30, .lshl, 1), (31, .lor, 1), (32, .aload_n 0, 1), (33, .getfield 40, 3), (36, .getfield 116, 3), (39, .i2l, 1), (40, .bipush 40, 2), (42, .lshl, 1), (43, .lor, 1), (44, .aload_n 0, 1), (45, .getfield 40, 3), (48, .getfield 119, 3), (51, .i2l, 1), (52, .bipush 47, 2), (54, .lshl, 1), (55, .lor, 1), (56, .aload_n 0, 1), (57, .getfield 40, 3), (60, .getfield 122, 3), (63, .iconst 1, 1), (64, .iadd, 1), (65, .i2l, 1), (66, .bipush 51, 2), (68, .lshl, 1), (69, .lor, 1), (70, .lreturn, 1)]
theorem dc54 : dcs (mC 54) il54 := dc_of (by decide +kernel)
def srch_firstState (q : Nat) (M : MM) : OR :=
  some (rJ (lOr (lOr (lOr (lOr (lOr (w32 (M 23 3)) (lShl (w32 (M 23 4)) 10)) (lShl (w32 (M 23 6)) 30)) (lShl (w32 (M 23 7)) 40)) (lShl (w32 (M 23 0)) 47)) (lShl (w32 ((M 23 2) + 1)) 51)), M)
set_option maxRecDepth 4000 in
theorem srch_firstState_ok {Z : Nat × (Nat → Int)} {d : Nat} (hd : 0 ≤ d) {M : MM} {q : Nat} (hq : M 0 17 = (q : Int)) (h0 : q ≠ 0) {res : AR × MM} (hf : srch_firstState q M = some res) : EX Z d 54 0 (ent 54 [vR q]) [] M res := by
  have hq0 : (q : Int) ≠ 0 := by omega
  unfold srch_firstState at hf
  show EX Z _ 54 0 [vR q] [] M res
  refine ex_pu (ls' := [vR q]) (st' := [vR q]) (dg dc54 0 rfl) rfl rfl ?_
  refine ex_getF (dg dc54 1 rfl) rfl (LOC.sr (j := 0) hq h0 (by decide) rfl) rfl ?_
  refine ex_getI (dg dc54 2 rfl) rfl (LOC.st (Nat.le_of_ble_eq_true rfl) rfl) rfl ?_
  refine ex_pu (ls' := [vR q]) (st' := [vJ (w32 (M 23 3))]) (dg dc54 3 rfl) rfl rfl ?_
  refine ex_pu (ls' := [vR q]) (st' := [vR q, vJ (w32 (M 23 3))]) (dg dc54 4 rfl) rfl rfl ?_
  refine ex_getF (dg dc54 5 rfl) rfl (LOC.sr (j := 0) hq h0 (by decide) rfl) rfl ?_
  refine ex_getI (dg dc54 6 rfl) rfl (LOC.st (Nat.le_of_ble_eq_true rfl) rfl) rfl ?_
  refine ex_pu (ls' := [vR q]) (st' := [vJ (w32 (M 23 4)), vJ (w32 (M 23 3))]) (dg dc54 7 rfl) rfl rfl ?_
  refine ex_pu (ls' := [vR q]) (st' := [vI 10, vJ (w32 (M 23 4)), vJ (w32 (M 23 3))]) (dg dc54 8 rfl) rfl rfl ?_
  refine ex_pu (ls' := [vR q]) (st' := [vJ (lShl (w32 (M 23 4)) 10), vJ (w32 (M 23 3))]) (dg dc54 9 rfl) rfl rfl ?_
  refine ex_pu (ls' := [vR q]) (st' := [vJ (lOr (w32 (M 23 3)) (lShl (w32 (M 23 4)) 10))]) (dg dc54 10 rfl) rfl rfl ?_
  refine ex_pu (ls' := [vR q]) (st' := [vR q, vJ (lOr (w32 (M 23 3)) (lShl (w32 (M 23 4)) 10))]) (dg dc54 11 rfl) rfl rfl ?_
  refine ex_getF (dg dc54 12 rfl) rfl (LOC.sr (j := 0) hq h0 (by decide) rfl) rfl ?_
  refine ex_getI (dg dc54 13 rfl) rfl (LOC.st (Nat.le_of_ble_eq_true rfl) rfl) rfl ?_
  refine ex_pu (ls' := [vR q]) (st' := [vJ (w32 (M 23 6)), vJ (lOr (w32 (M 23 3)) (lShl (w32 (M 23 4)) 10))]) (dg dc54 14 rfl) rfl rfl ?_
  refine ex_pu (ls' := [vR q]) (st' := [vI 30, vJ (w32 (M 23 6)), vJ (lOr (w32 (M 23 3)) (lShl (w32 (M 23 4)) 10))]) (dg dc54 15 rfl) rfl rfl ?_
  refine ex_pu (ls' := [vR q]) (st' := [vJ (lShl (w32 (M 23 6)) 30), vJ (lOr (w32 (M 23 3)) (lShl (w32 (M 23 4)) 10))]) (dg dc54 16 rfl) rfl rfl ?_
  refine ex_pu (ls' := [vR q]) (st' := [vJ (lOr (lOr (w32 (M 23 3)) (lShl (w32 (M 23 4)) 10)) (lShl (w32 (M 23 6)) 30))]) (dg dc54 17 rfl) rfl rfl ?_
  refine ex_pu (ls' := [vR q]) (st' := [vR q, vJ (lOr (lOr (w32 (M 23 3)) (lShl (w32 (M 23 4)) 10)) (lShl (w32 (M 23 6)) 30))]) (dg dc54 18 rfl) rfl rfl ?_
  refine ex_getF (dg dc54 19 rfl) rfl (LOC.sr (j := 0) hq h0 (by decide) rfl) rfl ?_
  refine ex_getI (dg dc54 20 rfl) rfl (LOC.st (Nat.le_of_ble_eq_true rfl) rfl) rfl ?_
  refine ex_pu (ls' := [vR q]) (st' := [vJ (w32 (M 23 7)), vJ (lOr (lOr (w32 (M 23 3)) (lShl (w32 (M 23 4)) 10)) (lShl (w32 (M 23 6)) 30))]) (dg dc54 21 rfl) rfl rfl ?_
  refine ex_pu (ls' := [vR q]) (st' := [vI 40, vJ (w32 (M 23 7)), vJ (lOr (lOr (w32 (M 23 3)) (lShl (w32 (M 23 4)) 10)) (lShl (w32 (M 23 6)) 30))]) (dg dc54 22 rfl) rfl rfl ?_
  refine ex_pu (ls' := [vR q]) (st' := [vJ (lShl (w32 (M 23 7)) 40), vJ (lOr (lOr (w32 (M 23 3)) (lShl (w32 (M 23 4)) 10)) (lShl (w32 (M 23 6)) 30))]) (dg dc54 23 rfl) rfl rfl ?_
  refine ex_pu (ls' := [vR q]) (st' := [vJ (lOr (lOr (lOr (w32 (M 23 3)) (lShl (w32 (M 23 4)) 10)) (lShl (w32 (M 23 6)) 30)) (lShl (w32 (M 23 7)) 40))]) (dg dc54 24 rfl) rfl rfl ?_
  refine ex_pu (ls' := [vR q]) (st' := [vR q, vJ (lOr (lOr (lOr (w32 (M 23 3)) (lShl (w32 (M 23 4)) 10)) (lShl (w32 (M 23 6)) 30)) (lShl (w32 (M 23 7)) 40))]) (dg dc54 25 rfl) rfl rfl ?_
  refine ex_getF (dg dc54 26 rfl) rfl (LOC.sr (j := 0) hq h0 (by decide) rfl) rfl ?_
  refine ex_getI (dg dc54 27 rfl) rfl (LOC.st (Nat.le_of_ble_eq_true rfl) rfl) rfl ?_
  refine ex_pu (ls' := [vR q]) (st' := [vJ (w32 (M 23 0)), vJ (lOr (lOr (lOr (w32 (M 23 3)) (lShl (w32 (M 23 4)) 10)) (lShl (w32 (M 23 6)) 30)) (lShl (w32 (M 23 7)) 40))]) (dg dc54 28 rfl) rfl rfl ?_
  refine ex_pu (ls' := [vR q]) (st' := [vI 47, vJ (w32 (M 23 0)), vJ (lOr (lOr (lOr (w32 (M 23 3)) (lShl (w32 (M 23 4)) 10)) (lShl (w32 (M 23 6)) 30)) (lShl (w32 (M 23 7)) 40))]) (dg dc54 29 rfl) rfl rfl ?_
  refine ex_pu (ls' := [vR q]) (st' := [vJ (lShl (w32 (M 23 0)) 47), vJ (lOr (lOr (lOr (w32 (M 23 3)) (lShl (w32 (M 23 4)) 10)) (lShl (w32 (M 23 6)) 30)) (lShl (w32 (M 23 7)) 40))]) (dg dc54 30 rfl) rfl rfl ?_
  refine ex_pu (ls' := [vR q]) (st' := [vJ (lOr (lOr (lOr (lOr (w32 (M 23 3)) (lShl (w32 (M 23 4)) 10)) (lShl (w32 (M 23 6)) 30)) (lShl (w32 (M 23 7)) 40)) (lShl (w32 (M 23 0)) 47))]) (dg dc54 31 rfl) rfl rfl ?_
  refine ex_pu (ls' := [vR q]) (st' := [vR q, vJ (lOr (lOr (lOr (lOr (w32 (M 23 3)) (lShl (w32 (M 23 4)) 10)) (lShl (w32 (M 23 6)) 30)) (lShl (w32 (M 23 7)) 40)) (lShl (w32 (M 23 0)) 47))]) (dg dc54 32 rfl) rfl rfl ?_
  refine ex_getF (dg dc54 33 rfl) rfl (LOC.sr (j := 0) hq h0 (by decide) rfl) rfl ?_
  refine ex_getI (dg dc54 34 rfl) rfl (LOC.st (Nat.le_of_ble_eq_true rfl) rfl) rfl ?_
  refine ex_pu (ls' := [vR q]) (st' := [vI 1, vI (M 23 2), vJ (lOr (lOr (lOr (lOr (w32 (M 23 3)) (lShl (w32 (M 23 4)) 10)) (lShl (w32 (M 23 6)) 30)) (lShl (w32 (M 23 7)) 40)) (lShl (w32 (M 23 0)) 47))]) (dg dc54 35 rfl) rfl rfl ?_
  refine ex_pu (ls' := [vR q]) (st' := [vI ((M 23 2) + 1), vJ (lOr (lOr (lOr (lOr (w32 (M 23 3)) (lShl (w32 (M 23 4)) 10)) (lShl (w32 (M 23 6)) 30)) (lShl (w32 (M 23 7)) 40)) (lShl (w32 (M 23 0)) 47))]) (dg dc54 36 rfl) rfl rfl ?_
  refine ex_pu (ls' := [vR q]) (st' := [vJ (w32 ((M 23 2) + 1)), vJ (lOr (lOr (lOr (lOr (w32 (M 23 3)) (lShl (w32 (M 23 4)) 10)) (lShl (w32 (M 23 6)) 30)) (lShl (w32 (M 23 7)) 40)) (lShl (w32 (M 23 0)) 47))]) (dg dc54 37 rfl) rfl rfl ?_
  refine ex_pu (ls' := [vR q]) (st' := [vI 51, vJ (w32 ((M 23 2) + 1)), vJ (lOr (lOr (lOr (lOr (w32 (M 23 3)) (lShl (w32 (M 23 4)) 10)) (lShl (w32 (M 23 6)) 30)) (lShl (w32 (M 23 7)) 40)) (lShl (w32 (M 23 0)) 47))]) (dg dc54 38 rfl) rfl rfl ?_
  refine ex_pu (ls' := [vR q]) (st' := [vJ (lShl (w32 ((M 23 2) + 1)) 51), vJ (lOr (lOr (lOr (lOr (w32 (M 23 3)) (lShl (w32 (M 23 4)) 10)) (lShl (w32 (M 23 6)) 30)) (lShl (w32 (M 23 7)) 40)) (lShl (w32 (M 23 0)) 47))]) (dg dc54 39 rfl) rfl rfl ?_
  refine ex_pu (ls' := [vR q]) (st' := [vJ (lOr (lOr (lOr (lOr (lOr (w32 (M 23 3)) (lShl (w32 (M 23 4)) 10)) (lShl (w32 (M 23 6)) 30)) (lShl (w32 (M 23 7)) 40)) (lShl (w32 (M 23 0)) 47)) (lShl (w32 ((M 23 2) + 1)) 51))]) (dg dc54 40 rfl) rfl rfl ?_
  exact ex_jre (dg dc54 41 rfl) rfl hf
-- GlassHill$Search.add
def il55 : List (Nat × Instr × Nat) := [(0, .lload_n 1, 1), (1, .ldc2_w 125, 3), (4, .lmul, 1), (5, .bipush 50, 2), (7, .lushr, 1), (8, .l2i, 1), (9, .istore_n 3, 1), (10, .iconst 0, 1), (11, .istore 4, 2), (13, .iload 4, 2), (15, .sipush 16384, 3), (18, .if_icmp .ge 45, 3), (21, .aload_n 0, 1), (22, .getfield 26, 3), (25, .iload_n 3, 1), (26, .iaload, 1), (27, .ifCond .eq 36, 3), (30, .aload_n 0, 1), (31, .getfield 22, 3), (34, .aload_n 0, 1), (35, .getfield 26, 3), (38, .iload_n 3, 1), (39, .iaload, 1), (40, .iconst 1, 1), (41, .isub, 1), (42, .laload, 1), (43, .lload_n 1, 1), (44, .lcmp, 1), (45, .ifCond .ne 4, 3), (48, .return_, 1), (49, .iload_n 3, 1), (50, .iconst 1, 1), (51, .iadd, 1), (52, .sipush 16384, 3), (55, .irem, 1), (56, .istore_n 3, 1), (57, .iinc 4 1, 3), (60, .goto (-47), 3), (63, .aload_n 0, 1), (64, .getfield 11, 3), (67, .sipush 6000, 3), (70, .if_icmp .lt 9, 3), (73, .aload_n 0, 1), (74, .iconst 1, 1), (75, .putfield 15, 3), (78, .return_, 1), (79, .aload_n 0, 1), (80, .getfield 22, 3), (83, .aload_n 0, 1), (84, .getfield 11, 3), (87, .lload_n 1, 1), (88, .lastore, 1), (89, .aload_n 0, 1), (90, .dup, 1), (91, .getfield 11, 3), (94, .iconst 1, 1), (95, .iadd, 1), (96, .putfield 11, 3), (99, .aload_n 0, 1), (100, .getfield 26, 3), (103, .iload_n 3, 1), (104, .aload_n 0, 1), (105, .getfield 11, 3), (108, .iastore, 1), (109, .return_, 1)]
theorem dc55 : dcs (mC 55) il55 := dc_of (by decide +kernel)
def srch_add_L13 (q : Nat) (v1 : Int) (K1 : Int → MM → OR) (K2 : MM → OR) : Nat → Int → Int → MM → OR
  | 0, _, _, _ => none
  | n + 1, v3, v4, M => (bif cmpB .ge v4 16384 then (K1 v3 M) else (bif inB v3 16384 then (bif cmpB .eq (M 1002 (v3).toNat) 0 then (K1 v3 M) else (bif inB v3 16384 then (bif inB ((M 1002 (v3).toNat) - 1) 6000 then (bif cmpB .ne (lCmp (M 1001 (((M 1002 (v3).toNat) - 1)).toNat) v1) 0 then (srch_add_L13 q v1 K1 K2 n ((w32 (v3 + 1)).tmod (w32 16384)) (v4 + 1) M) else (K2  M)) else none) else none)) else none))
set_option maxRecDepth 4000 in
theorem srch_add_L13_ok {Z : Nat × (Nat → Int)} {d : Nat} (hd : 0 ≤ d) {q : Nat} (h0 : q ≠ 0) {v1 : Int} {K1 : Int → MM → OR} {K2 : MM → OR} {res : AR × MM} (k1 : ∀ (x3 : Int) (M : MM) (j4 : AV), M 0 17 = (q : Int) → K1 x3 M = some res → EX Z d 55 63 [vR q, vJ v1, vU, vI x3, j4] [] M res) (k2 : ∀ (M : MM) (j0 j1 j2 j3 j4 : AV), M 0 17 = (q : Int) → K2  M = some res → EX Z d 55 48 [j0, j1, j2, j3, j4] [] M res) : ∀ (n : Nat) (v3 v4 : Int) (M : MM), M 0 17 = (q : Int) → srch_add_L13 q v1 K1 K2 n v3 v4 M = some res → EX Z d 55 13 [vR q, vJ v1, vU, vI v3, vI v4] [] M res := by
  have hq0 : (q : Int) ≠ 0 := by omega
  intro n
  induction n with
  | zero =>
    intro v3 v4 M hq hf
    unfold srch_add_L13 at hf
    cases hf
  | succ n ih =>
    intro v3 v4 M hq hf
    unfold srch_add_L13 at hf
    refine ex_pu (ls' := [vR q, vJ v1, vU, vI v3, vI v4]) (st' := [vI v4]) (dg dc55 9 rfl) rfl rfl ?_
    refine ex_pu (ls' := [vR q, vJ v1, vU, vI v3, vI v4]) (st' := [vI 16384, vI v4]) (dg dc55 10 rfl) rfl rfl ?_
    refine ex_icmp (t := 63) (dg dc55 11 rfl) rfl hf (fun _ hf => ?_) (fun _ hf => ?_)
    · exact k1 v3 M _ hq hf
    · refine ex_pu (ls' := [vR q, vJ v1, vU, vI v3, vI v4]) (st' := [vR q]) (dg dc55 12 rfl) rfl rfl ?_
      refine ex_getO (dg dc55 13 rfl) rfl (LOC.sr (j := 0) hq h0 (by decide) rfl) rfl ?_
      show EX Z _ 55 _ [vR q, vJ v1, vU, vI v3, vI v4] [vR (q + 2)] _ _
      refine ex_pu (ls' := [vR q, vJ v1, vU, vI v3, vI v4]) (st' := [vI v3, vR (q + 2)]) (dg dc55 14 rfl) rfl rfl ?_
      refine ex_iald (dg dc55 15 rfl) (LOC.sr (j := 2) hq h0 (by decide) rfl) rfl hf (fun _ hf => ?_)
      refine ex_if (t := 63) (dg dc55 16 rfl) rfl hf (fun _ hf => ?_) (fun _ hf => ?_)
      · exact k1 v3 M _ hq hf
      · refine ex_pu (ls' := [vR q, vJ v1, vU, vI v3, vI v4]) (st' := [vR q]) (dg dc55 17 rfl) rfl rfl ?_
        refine ex_getO (dg dc55 18 rfl) rfl (LOC.sr (j := 0) hq h0 (by decide) rfl) rfl ?_
        show EX Z _ 55 _ [vR q, vJ v1, vU, vI v3, vI v4] [vR (q + 1)] _ _
        refine ex_pu (ls' := [vR q, vJ v1, vU, vI v3, vI v4]) (st' := [vR q, vR (q + 1)]) (dg dc55 19 rfl) rfl rfl ?_
        refine ex_getO (dg dc55 20 rfl) rfl (LOC.sr (j := 0) hq h0 (by decide) rfl) rfl ?_
        show EX Z _ 55 _ [vR q, vJ v1, vU, vI v3, vI v4] [vR (q + 2), vR (q + 1)] _ _
        refine ex_pu (ls' := [vR q, vJ v1, vU, vI v3, vI v4]) (st' := [vI v3, vR (q + 2), vR (q + 1)]) (dg dc55 21 rfl) rfl rfl ?_
        refine ex_iald (dg dc55 22 rfl) (LOC.sr (j := 2) hq h0 (by decide) rfl) rfl hf (fun _ hf => ?_)
        refine ex_pu (ls' := [vR q, vJ v1, vU, vI v3, vI v4]) (st' := [vI 1, vI (M 1002 (v3).toNat), vR (q + 1)]) (dg dc55 23 rfl) rfl rfl ?_
        refine ex_pu (ls' := [vR q, vJ v1, vU, vI v3, vI v4]) (st' := [vI ((M 1002 (v3).toNat) - 1), vR (q + 1)]) (dg dc55 24 rfl) rfl rfl ?_
        refine ex_lald (dg dc55 25 rfl) (LOC.sr (j := 1) hq h0 (by decide) rfl) rfl hf (fun _ hf => ?_)
        refine ex_pu (ls' := [vR q, vJ v1, vU, vI v3, vI v4]) (st' := [vJ v1, vJ (M 1001 (((M 1002 (v3).toNat) - 1)).toNat)]) (dg dc55 26 rfl) rfl rfl ?_
        refine ex_pu (ls' := [vR q, vJ v1, vU, vI v3, vI v4]) (st' := [vI (lCmp (M 1001 (((M 1002 (v3).toNat) - 1)).toNat) v1)]) (dg dc55 27 rfl) rfl rfl ?_
        refine ex_if (t := 49) (dg dc55 28 rfl) rfl hf (fun _ hf => ?_) (fun _ hf => ?_)
        · refine ex_pu (ls' := [vR q, vJ v1, vU, vI v3, vI v4]) (st' := [vI v3]) (dg dc55 30 rfl) rfl rfl ?_
          refine ex_pu (ls' := [vR q, vJ v1, vU, vI v3, vI v4]) (st' := [vI 1, vI v3]) (dg dc55 31 rfl) rfl rfl ?_
          refine ex_pu (ls' := [vR q, vJ v1, vU, vI v3, vI v4]) (st' := [vI (v3 + 1)]) (dg dc55 32 rfl) rfl rfl ?_
          refine ex_pu (ls' := [vR q, vJ v1, vU, vI v3, vI v4]) (st' := [vI 16384, vI (v3 + 1)]) (dg dc55 33 rfl) rfl rfl ?_
          refine ex_irem (dg dc55 34 rfl) (by decide +kernel) ?_
          refine ex_pu (ls' := [vR q, vJ v1, vU, vI ((w32 (v3 + 1)).tmod (w32 16384)), vI v4]) (st' := []) (dg dc55 35 rfl) rfl rfl ?_
          refine ex_pu (ls' := [vR q, vJ v1, vU, vI ((w32 (v3 + 1)).tmod (w32 16384)), vI (v4 + 1)]) (st' := []) (dg dc55 36 rfl) rfl rfl ?_
          refine ex_goto (t := 13) (dg dc55 37 rfl) rfl rfl ?_
          exact ih ((w32 (v3 + 1)).tmod (w32 16384)) (v4 + 1) M hq hf
        · exact k2  M _ _ _ _ _ hq hf
def srch_add_J63 (q : Nat)  (v1 v3 : Int) (M : MM) : OR :=
  (bif cmpB .lt (M 1000 3) 6000 then (bif inB (M 1000 3) 6000 then (sM (mU M 1001 ((M 1000 3)).toNat v1) fun M_5 => (sM (mU M_5 1000 3 ((M_5 1000 3) + 1)) fun M_8 => (bif inB v3 16384 then (sM (mU M_8 1002 (v3).toNat (M_8 1000 3)) fun M_11 => some (rV, M_11)) else none))) else none) else (sM (mU M 1000 4 1) fun M_14 => some (rV, M_14)))
set_option maxRecDepth 4000 in
theorem srch_add_J63_ok {Z : Nat × (Nat → Int)} {d : Nat} (hd : 0 ≤ d) {q : Nat} (h0 : q ≠ 0)  {res : AR × MM}  : ∀ (v1 v3 : Int) (M : MM) (j4 : AV), M 0 17 = (q : Int) → srch_add_J63 q  v1 v3 M = some res → EX Z d 55 63 [vR q, vJ v1, vU, vI v3, j4] [] M res := by
  have hq0 : (q : Int) ≠ 0 := by omega
  intro v1 v3 M j4 hq hf
  unfold srch_add_J63 at hf
  refine ex_pu (ls' := [vR q, vJ v1, vU, vI v3, j4]) (st' := [vR q]) (dg dc55 38 rfl) rfl rfl ?_
  refine ex_getI (dg dc55 39 rfl) rfl (LOC.sr (j := 0) hq h0 (by decide) rfl) rfl ?_
  refine ex_pu (ls' := [vR q, vJ v1, vU, vI v3, j4]) (st' := [vI 6000, vI (M 1000 3)]) (dg dc55 40 rfl) rfl rfl ?_
  refine ex_icmp (t := 79) (dg dc55 41 rfl) rfl hf (fun _ hf => ?_) (fun _ hf => ?_)
  · refine ex_pu (ls' := [vR q, vJ v1, vU, vI v3, j4]) (st' := [vR q]) (dg dc55 46 rfl) rfl rfl ?_
    refine ex_getO (dg dc55 47 rfl) rfl (LOC.sr (j := 0) hq h0 (by decide) rfl) rfl ?_
    show EX Z _ 55 _ [vR q, vJ v1, vU, vI v3, j4] [vR (q + 1)] _ _
    refine ex_pu (ls' := [vR q, vJ v1, vU, vI v3, j4]) (st' := [vR q, vR (q + 1)]) (dg dc55 48 rfl) rfl rfl ?_
    refine ex_getI (dg dc55 49 rfl) rfl (LOC.sr (j := 0) hq h0 (by decide) rfl) rfl ?_
    refine ex_pu (ls' := [vR q, vJ v1, vU, vI v3, j4]) (st' := [vJ v1, vI (M 1000 3), vR (q + 1)]) (dg dc55 50 rfl) rfl rfl ?_
    refine ex_last (dg dc55 51 rfl) (LOC.sr (j := 1) hq h0 (by decide) rfl) rfl rfl hf (fun _ hf => ?_)
    refine ex_gen hf (fun M_5 hM_6 hf => ?_)
    have hq_7 : M_5 0 17 = (q : Int) := by rw [hM_6]; exact hq
    refine ex_pu (ls' := [vR q, vJ v1, vU, vI v3, j4]) (st' := [vR q]) (dg dc55 52 rfl) rfl rfl ?_
    refine ex_pu (ls' := [vR q, vJ v1, vU, vI v3, j4]) (st' := [vR q, vR q]) (dg dc55 53 rfl) rfl rfl ?_
    refine ex_getI (dg dc55 54 rfl) rfl (LOC.sr (j := 0) hq_7 h0 (by decide) rfl) rfl ?_
    refine ex_pu (ls' := [vR q, vJ v1, vU, vI v3, j4]) (st' := [vI 1, vI (M_5 1000 3), vR q]) (dg dc55 55 rfl) rfl rfl ?_
    refine ex_pu (ls' := [vR q, vJ v1, vU, vI v3, j4]) (st' := [vI ((M_5 1000 3) + 1), vR q]) (dg dc55 56 rfl) rfl rfl ?_
    refine ex_putI (dg dc55 57 rfl) rfl (LOC.sr (j := 0) hq_7 h0 (by decide) rfl) rfl rfl rfl ?_
    refine ex_gen hf (fun M_8 hM_9 hf => ?_)
    have hq_10 : M_8 0 17 = (q : Int) := by rw [hM_9]; exact hq_7
    refine ex_pu (ls' := [vR q, vJ v1, vU, vI v3, j4]) (st' := [vR q]) (dg dc55 58 rfl) rfl rfl ?_
    refine ex_getO (dg dc55 59 rfl) rfl (LOC.sr (j := 0) hq_10 h0 (by decide) rfl) rfl ?_
    show EX Z _ 55 _ [vR q, vJ v1, vU, vI v3, j4] [vR (q + 2)] _ _
    refine ex_pu (ls' := [vR q, vJ v1, vU, vI v3, j4]) (st' := [vI v3, vR (q + 2)]) (dg dc55 60 rfl) rfl rfl ?_
    refine ex_pu (ls' := [vR q, vJ v1, vU, vI v3, j4]) (st' := [vR q, vI v3, vR (q + 2)]) (dg dc55 61 rfl) rfl rfl ?_
    refine ex_getI (dg dc55 62 rfl) rfl (LOC.sr (j := 0) hq_10 h0 (by decide) rfl) rfl ?_
    refine ex_iast (dg dc55 63 rfl) (LOC.sr (j := 2) hq_10 h0 (by decide) rfl) rfl rfl hf (fun _ hf => ?_)
    refine ex_gen hf (fun M_11 hM_12 hf => ?_)
    have hq_13 : M_11 0 17 = (q : Int) := by rw [hM_12]; exact hq_10
    exact ex_vre (dg dc55 64 rfl) rfl hf
  · refine ex_pu (ls' := [vR q, vJ v1, vU, vI v3, j4]) (st' := [vR q]) (dg dc55 42 rfl) rfl rfl ?_
    refine ex_pu (ls' := [vR q, vJ v1, vU, vI v3, j4]) (st' := [vI 1, vR q]) (dg dc55 43 rfl) rfl rfl ?_
    refine ex_putI (dg dc55 44 rfl) rfl (LOC.sr (j := 0) hq h0 (by decide) rfl) rfl rfl rfl ?_
    refine ex_gen hf (fun M_14 hM_15 hf => ?_)
    have hq_16 : M_14 0 17 = (q : Int) := by rw [hM_15]; exact hq
    exact ex_vre (dg dc55 45 rfl) rfl hf
def srch_add (q : Nat) (v1 : Int) (M : MM) : OR :=
  (srch_add_L13 q v1 (fun v3_1 M_2 => (srch_add_J63 q  v1 v3_1 M_2)) (fun M_17 => some (rV, M_17)) FU (lUshr (v1 * (-7046029254386353131)) 50) 0 M)
set_option maxRecDepth 4000 in
theorem srch_add_ok {Z : Nat × (Nat → Int)} {d : Nat} (hd : 0 ≤ d) {M : MM} {q : Nat} (hq : M 0 17 = (q : Int)) (h0 : q ≠ 0) {v1 : Int} {res : AR × MM} (hf : srch_add q v1 M = some res) : EX Z d 55 0 (ent 55 [vR q, vJ v1]) [] M res := by
  have hq0 : (q : Int) ≠ 0 := by omega
  unfold srch_add at hf
  show EX Z _ 55 0 [vR q, vJ v1, vU, vU, vU] [] M res
  refine ex_pu (ls' := [vR q, vJ v1, vU, vU, vU]) (st' := [vJ v1]) (dg dc55 0 rfl) rfl rfl ?_
  refine ex_ldc2 (dg dc55 1 rfl) rfl ?_
  refine ex_pu (ls' := [vR q, vJ v1, vU, vU, vU]) (st' := [vJ (v1 * (-7046029254386353131))]) (dg dc55 2 rfl) rfl rfl ?_
  refine ex_pu (ls' := [vR q, vJ v1, vU, vU, vU]) (st' := [vI 50, vJ (v1 * (-7046029254386353131))]) (dg dc55 3 rfl) rfl rfl ?_
  refine ex_pu (ls' := [vR q, vJ v1, vU, vU, vU]) (st' := [vJ (lUshr (v1 * (-7046029254386353131)) 50)]) (dg dc55 4 rfl) rfl rfl ?_
  refine ex_pu (ls' := [vR q, vJ v1, vU, vU, vU]) (st' := [vI (lUshr (v1 * (-7046029254386353131)) 50)]) (dg dc55 5 rfl) rfl rfl ?_
  refine ex_pu (ls' := [vR q, vJ v1, vU, vI (lUshr (v1 * (-7046029254386353131)) 50), vU]) (st' := []) (dg dc55 6 rfl) rfl rfl ?_
  refine ex_pu (ls' := [vR q, vJ v1, vU, vI (lUshr (v1 * (-7046029254386353131)) 50), vU]) (st' := [vI 0]) (dg dc55 7 rfl) rfl rfl ?_
  refine ex_pu (ls' := [vR q, vJ v1, vU, vI (lUshr (v1 * (-7046029254386353131)) 50), vI 0]) (st' := []) (dg dc55 8 rfl) rfl rfl ?_
  refine srch_add_L13_ok hd h0 ?_ ?_ FU (lUshr (v1 * (-7046029254386353131)) 50) 0 M hq hf
  · intro v3_1 M_2 j4_4 hq_3 hf
    exact srch_add_J63_ok hd h0  v1 v3_1 M_2 _ hq_3 hf
  · intro M_17 j0_19 j1_20 j2_21 j3_22 j4_23 hq_18 hf
    exact ex_vre (dg dc55 29 rfl) rfl hf
-- GlassHill$Search.lesser
def il66 : List (Nat × Instr × Nat) := [(0, .iload_n 0, 1), (1, .iconst (-1), 1), (2, .if_icmp .ne 7, 3), (5, .iload_n 1, 1), (6, .goto 8, 3), (9, .iload_n 0, 1), (10, .iload_n 1, 1), (11, .invokestatic 193, 3), (14, .ireturn, 1)]
theorem dc66 : dcs (mC 66) il66 := dc_of (by decide +kernel)
def srch_lesser (v0 : Int) (v1 : Int) (M : MM) : OR :=
  (bif cmpB .ne v0 (-1) then some (rI (imin v0 v1), M) else some (rI v1, M))
set_option maxRecDepth 4000 in
theorem srch_lesser_ok {Z : Nat × (Nat → Int)} {d : Nat} (hd : 0 ≤ d) {M : MM}  {v0 v1 : Int} {res : AR × MM} (hf : srch_lesser v0 v1 M = some res) : EX Z d 66 0 (ent 66 [vI v0, vI v1]) [] M res := by
  unfold srch_lesser at hf
  show EX Z _ 66 0 [vI v0, vI v1] [] M res
  refine ex_pu (ls' := [vI v0, vI v1]) (st' := [vI v0]) (dg dc66 0 rfl) rfl rfl ?_
  refine ex_pu (ls' := [vI v0, vI v1]) (st' := [vI (-1), vI v0]) (dg dc66 1 rfl) rfl rfl ?_
  refine ex_icmp (t := 9) (dg dc66 2 rfl) rfl hf (fun _ hf => ?_) (fun _ hf => ?_)
  · refine ex_pu (ls' := [vI v0, vI v1]) (st' := [vI v0]) (dg dc66 5 rfl) rfl rfl ?_
    refine ex_pu (ls' := [vI v0, vI v1]) (st' := [vI v1, vI v0]) (dg dc66 6 rfl) rfl rfl ?_
    refine ex_min (dg dc66 7 rfl) rfl rfl ?_
    exact ex_ire (dg dc66 8 rfl) rfl hf
  · refine ex_pu (ls' := [vI v0, vI v1]) (st' := [vI v1]) (dg dc66 3 rfl) rfl rfl ?_
    refine ex_goto (t := 14) (dg dc66 4 rfl) rfl rfl ?_
    exact ex_ire (dg dc66 8 rfl) rfl hf
-- GlassHill$Search.hoursOf
def il67 : List (Nat × Instr × Nat) := [(0, .lload_n 0, 1), (1, .bipush 56, 2), (3, .lushr, 1), (4, .l2i, 1), (5, .bipush 31, 2), (7, .iand, 1), (8, .ireturn, 1)]
theorem dc67 : dcs (mC 67) il67 := dc_of (by decide +kernel)
def srch_hoursOf (v0 : Int) (M : MM) : OR :=
  some (rI (iAnd (lUshr v0 56) 31), M)
set_option maxRecDepth 4000 in
theorem srch_hoursOf_ok {Z : Nat × (Nat → Int)} {d : Nat} (hd : 0 ≤ d) {M : MM}  {v0 : Int} {res : AR × MM} (hf : srch_hoursOf v0 M = some res) : EX Z d 67 0 (ent 67 [vJ v0]) [] M res := by
  unfold srch_hoursOf at hf
  show EX Z _ 67 0 [vJ v0, vU] [] M res
  refine ex_pu (ls' := [vJ v0, vU]) (st' := [vJ v0]) (dg dc67 0 rfl) rfl rfl ?_
  refine ex_pu (ls' := [vJ v0, vU]) (st' := [vI 56, vJ v0]) (dg dc67 1 rfl) rfl rfl ?_
  refine ex_pu (ls' := [vJ v0, vU]) (st' := [vJ (lUshr v0 56)]) (dg dc67 2 rfl) rfl rfl ?_
  refine ex_pu (ls' := [vJ v0, vU]) (st' := [vI (lUshr v0 56)]) (dg dc67 3 rfl) rfl rfl ?_
  refine ex_pu (ls' := [vJ v0, vU]) (st' := [vI 31, vI (lUshr v0 56)]) (dg dc67 4 rfl) rfl rfl ?_
  refine ex_pu (ls' := [vJ v0, vU]) (st' := [vI (iAnd (lUshr v0 56) 31)]) (dg dc67 5 rfl) rfl rfl ?_
  exact ex_ire (dg dc67 6 rfl) rfl hf
-- GlassHill$Search.placeOf
def il68 : List (Nat × Instr × Nat) := [(0, .lload_n 0, 1), (1, .bipush 47, 2), (3, .lushr, 1), (4, .l2i, 1), (5, .bipush 15, 2), (7, .iand, 1), (8, .ireturn, 1)]
theorem dc68 : dcs (mC 68) il68 := dc_of (by decide +kernel)
def srch_placeOf (v0 : Int) (M : MM) : OR :=
  some (rI (iAnd (lUshr v0 47) 15), M)
set_option maxRecDepth 4000 in
theorem srch_placeOf_ok {Z : Nat × (Nat → Int)} {d : Nat} (hd : 0 ≤ d) {M : MM}  {v0 : Int} {res : AR × MM} (hf : srch_placeOf v0 M = some res) : EX Z d 68 0 (ent 68 [vJ v0]) [] M res := by
  unfold srch_placeOf at hf
  show EX Z _ 68 0 [vJ v0, vU] [] M res
  refine ex_pu (ls' := [vJ v0, vU]) (st' := [vJ v0]) (dg dc68 0 rfl) rfl rfl ?_
  refine ex_pu (ls' := [vJ v0, vU]) (st' := [vI 47, vJ v0]) (dg dc68 1 rfl) rfl rfl ?_
  refine ex_pu (ls' := [vJ v0, vU]) (st' := [vJ (lUshr v0 47)]) (dg dc68 2 rfl) rfl rfl ?_
  refine ex_pu (ls' := [vJ v0, vU]) (st' := [vI (lUshr v0 47)]) (dg dc68 3 rfl) rfl rfl ?_
  refine ex_pu (ls' := [vJ v0, vU]) (st' := [vI 15, vI (lUshr v0 47)]) (dg dc68 4 rfl) rfl rfl ?_
  refine ex_pu (ls' := [vJ v0, vU]) (st' := [vI (iAnd (lUshr v0 47) 15)]) (dg dc68 5 rfl) rfl rfl ?_
  exact ex_ire (dg dc68 6 rfl) rfl hf
-- GlassHill$Search.passedOf
def il69 : List (Nat × Instr × Nat) := [(0, .lload_n 0, 1), (1, .bipush 30, 2), (3, .lushr, 1), (4, .l2i, 1), (5, .sipush 1023, 3), (8, .iand, 1), (9, .ireturn, 1)]
theorem dc69 : dcs (mC 69) il69 := dc_of (by decide +kernel)
def srch_passedOf (v0 : Int) (M : MM) : OR :=
  some (rI (iAnd (lUshr v0 30) 1023), M)
set_option maxRecDepth 4000 in
theorem srch_passedOf_ok {Z : Nat × (Nat → Int)} {d : Nat} (hd : 0 ≤ d) {M : MM}  {v0 : Int} {res : AR × MM} (hf : srch_passedOf v0 M = some res) : EX Z d 69 0 (ent 69 [vJ v0]) [] M res := by
  unfold srch_passedOf at hf
  show EX Z _ 69 0 [vJ v0, vU] [] M res
  refine ex_pu (ls' := [vJ v0, vU]) (st' := [vJ v0]) (dg dc69 0 rfl) rfl rfl ?_
  refine ex_pu (ls' := [vJ v0, vU]) (st' := [vI 30, vJ v0]) (dg dc69 1 rfl) rfl rfl ?_
  refine ex_pu (ls' := [vJ v0, vU]) (st' := [vJ (lUshr v0 30)]) (dg dc69 2 rfl) rfl rfl ?_
  refine ex_pu (ls' := [vJ v0, vU]) (st' := [vI (lUshr v0 30)]) (dg dc69 3 rfl) rfl rfl ?_
  refine ex_pu (ls' := [vJ v0, vU]) (st' := [vI 1023, vI (lUshr v0 30)]) (dg dc69 4 rfl) rfl rfl ?_
  refine ex_pu (ls' := [vJ v0, vU]) (st' := [vI (iAnd (lUshr v0 30) 1023)]) (dg dc69 5 rfl) rfl rfl ?_
  exact ex_ire (dg dc69 6 rfl) rfl hf
-- GlassHill$Search.freedOf
def il70 : List (Nat × Instr × Nat) := [(0, .lload_n 0, 1), (1, .bipush 40, 2), (3, .lushr, 1), (4, .l2i, 1), (5, .bipush 127, 2), (7, .iand, 1), (8, .ireturn, 1)]
theorem dc70 : dcs (mC 70) il70 := dc_of (by decide +kernel)
def srch_freedOf (v0 : Int) (M : MM) : OR :=
  some (rI (iAnd (lUshr v0 40) 127), M)
set_option maxRecDepth 4000 in
theorem srch_freedOf_ok {Z : Nat × (Nat → Int)} {d : Nat} (hd : 0 ≤ d) {M : MM}  {v0 : Int} {res : AR × MM} (hf : srch_freedOf v0 M = some res) : EX Z d 70 0 (ent 70 [vJ v0]) [] M res := by
  unfold srch_freedOf at hf
  show EX Z _ 70 0 [vJ v0, vU] [] M res
  refine ex_pu (ls' := [vJ v0, vU]) (st' := [vJ v0]) (dg dc70 0 rfl) rfl rfl ?_
  refine ex_pu (ls' := [vJ v0, vU]) (st' := [vI 40, vJ v0]) (dg dc70 1 rfl) rfl rfl ?_
  refine ex_pu (ls' := [vJ v0, vU]) (st' := [vJ (lUshr v0 40)]) (dg dc70 2 rfl) rfl rfl ?_
  refine ex_pu (ls' := [vJ v0, vU]) (st' := [vI (lUshr v0 40)]) (dg dc70 3 rfl) rfl rfl ?_
  refine ex_pu (ls' := [vJ v0, vU]) (st' := [vI 127, vI (lUshr v0 40)]) (dg dc70 4 rfl) rfl rfl ?_
  refine ex_pu (ls' := [vJ v0, vU]) (st' := [vI (iAnd (lUshr v0 40) 127)]) (dg dc70 5 rfl) rfl rfl ?_
  exact ex_ire (dg dc70 6 rfl) rfl hf
-- GlassHill$Tape.append
def il87 : List (Nat × Instr × Nat) := [(0, .bipush 24, 2), (2, .istore_n 2, 1), (3, .iload_n 2, 1), (4, .ifCond .lt 45, 3), (7, .aload_n 0, 1), (8, .getfield 15, 3), (11, .sipush 400, 3), (14, .if_icmp .ge 29, 3), (17, .aload_n 0, 1), (18, .getfield 11, 3), (21, .aload_n 0, 1), (22, .getfield 15, 3), (25, .iload_n 1, 1), (26, .iload_n 2, 1), (27, .iushr, 1), (28, .sipush 255, 3), (31, .iand, 1), (32, .iastore, 1), (33, .aload_n 0, 1), (34, .dup, 1), (35, .getfield 15, 3), (38, .iconst 1, 1), (39, .iadd, 1), (40, .putfield 15, 3), (43, .iinc 2 (-8), 3), (46, .goto (-43), 3), (49, .return_, 1)]
theorem dc87 : dcs (mC 87) il87 := dc_of (by decide +kernel)
def tape_append_L3  (v1 : Int) (K1 : MM → OR) : Nat → Int → MM → OR
  | 0, _, _ => none
  | n + 1, v2, M => (bif cmpB .lt v2 0 then (K1  M) else (bif cmpB .ge (M 1 1) 400 then (tape_append_L3 v1 K1 n (v2 + (-8)) M) else (bif inB (M 1 1) 400 then (sM (mU M 2 ((M 1 1)).toNat (iAnd (iUshr v1 v2) 255)) fun M_1 => (sM (mU M_1 1 1 ((M_1 1 1) + 1)) fun M_3 => (tape_append_L3 v1 K1 n (v2 + (-8)) M_3))) else none)))
set_option maxRecDepth 4000 in
theorem tape_append_L3_ok {Z : Nat × (Nat → Int)} {d : Nat} (hd : 0 ≤ d)  {v1 : Int} {K1 : MM → OR} {res : AR × MM} (k1 : ∀ (M : MM) (j0 j1 j2 : AV), K1  M = some res → EX Z d 87 49 [j0, j1, j2] [] M res) : ∀ (n : Nat) (v2 : Int) (M : MM), tape_append_L3 v1 K1 n v2 M = some res → EX Z d 87 3 [vR 1, vI v1, vI v2] [] M res := by
  intro n
  induction n with
  | zero =>
    intro v2 M hf
    unfold tape_append_L3 at hf
    cases hf
  | succ n ih =>
    intro v2 M hf
    unfold tape_append_L3 at hf
    refine ex_pu (ls' := [vR 1, vI v1, vI v2]) (st' := [vI v2]) (dg dc87 2 rfl) rfl rfl ?_
    refine ex_if (t := 49) (dg dc87 3 rfl) rfl hf (fun _ hf => ?_) (fun _ hf => ?_)
    · exact k1  M _ _ _ hf
    · refine ex_pu (ls' := [vR 1, vI v1, vI v2]) (st' := [vR 1]) (dg dc87 4 rfl) rfl rfl ?_
      refine ex_getI (dg dc87 5 rfl) rfl (LOC.st (Nat.le_of_ble_eq_true rfl) rfl) rfl ?_
      refine ex_pu (ls' := [vR 1, vI v1, vI v2]) (st' := [vI 400, vI (M 1 1)]) (dg dc87 6 rfl) rfl rfl ?_
      refine ex_icmp (t := 43) (dg dc87 7 rfl) rfl hf (fun _ hf => ?_) (fun _ hf => ?_)
      · refine ex_pu (ls' := [vR 1, vI v1, vI (v2 + (-8))]) (st' := []) (dg dc87 24 rfl) rfl rfl ?_
        refine ex_goto (t := 3) (dg dc87 25 rfl) rfl rfl ?_
        exact ih (v2 + (-8)) M hf
      · refine ex_pu (ls' := [vR 1, vI v1, vI v2]) (st' := [vR 1]) (dg dc87 8 rfl) rfl rfl ?_
        refine ex_getO (dg dc87 9 rfl) rfl (LOC.st (Nat.le_of_ble_eq_true rfl) rfl) rfl ?_
        show EX Z _ 87 _ [vR 1, vI v1, vI v2] [vR 2] _ _
        refine ex_pu (ls' := [vR 1, vI v1, vI v2]) (st' := [vR 1, vR 2]) (dg dc87 10 rfl) rfl rfl ?_
        refine ex_getI (dg dc87 11 rfl) rfl (LOC.st (Nat.le_of_ble_eq_true rfl) rfl) rfl ?_
        refine ex_pu (ls' := [vR 1, vI v1, vI v2]) (st' := [vI v1, vI (M 1 1), vR 2]) (dg dc87 12 rfl) rfl rfl ?_
        refine ex_pu (ls' := [vR 1, vI v1, vI v2]) (st' := [vI v2, vI v1, vI (M 1 1), vR 2]) (dg dc87 13 rfl) rfl rfl ?_
        refine ex_pu (ls' := [vR 1, vI v1, vI v2]) (st' := [vI (iUshr v1 v2), vI (M 1 1), vR 2]) (dg dc87 14 rfl) rfl rfl ?_
        refine ex_pu (ls' := [vR 1, vI v1, vI v2]) (st' := [vI 255, vI (iUshr v1 v2), vI (M 1 1), vR 2]) (dg dc87 15 rfl) rfl rfl ?_
        refine ex_pu (ls' := [vR 1, vI v1, vI v2]) (st' := [vI (iAnd (iUshr v1 v2) 255), vI (M 1 1), vR 2]) (dg dc87 16 rfl) rfl rfl ?_
        refine ex_iast (dg dc87 17 rfl) (LOC.st (Nat.le_of_ble_eq_true rfl) rfl) rfl rfl hf (fun _ hf => ?_)
        refine ex_gen hf (fun M_1 hM_2 hf => ?_)
        refine ex_pu (ls' := [vR 1, vI v1, vI v2]) (st' := [vR 1]) (dg dc87 18 rfl) rfl rfl ?_
        refine ex_pu (ls' := [vR 1, vI v1, vI v2]) (st' := [vR 1, vR 1]) (dg dc87 19 rfl) rfl rfl ?_
        refine ex_getI (dg dc87 20 rfl) rfl (LOC.st (Nat.le_of_ble_eq_true rfl) rfl) rfl ?_
        refine ex_pu (ls' := [vR 1, vI v1, vI v2]) (st' := [vI 1, vI (M_1 1 1), vR 1]) (dg dc87 21 rfl) rfl rfl ?_
        refine ex_pu (ls' := [vR 1, vI v1, vI v2]) (st' := [vI ((M_1 1 1) + 1), vR 1]) (dg dc87 22 rfl) rfl rfl ?_
        refine ex_putI (dg dc87 23 rfl) rfl (LOC.st (Nat.le_of_ble_eq_true rfl) rfl) rfl rfl rfl ?_
        refine ex_gen hf (fun M_3 hM_4 hf => ?_)
        refine ex_pu (ls' := [vR 1, vI v1, vI (v2 + (-8))]) (st' := []) (dg dc87 24 rfl) rfl rfl ?_
        refine ex_goto (t := 3) (dg dc87 25 rfl) rfl rfl ?_
        exact ih (v2 + (-8)) M_3 hf
def tape_append (v1 : Int) (M : MM) : OR :=
  (tape_append_L3 v1 (fun M_5 => some (rV, M_5)) FU 24 M)
set_option maxRecDepth 4000 in
theorem tape_append_ok {Z : Nat × (Nat → Int)} {d : Nat} (hd : 0 ≤ d) {M : MM}  {v1 : Int} {res : AR × MM} (hf : tape_append v1 M = some res) : EX Z d 87 0 (ent 87 [vR 1, vI v1]) [] M res := by
  unfold tape_append at hf
  show EX Z _ 87 0 [vR 1, vI v1, vU] [] M res
  refine ex_pu (ls' := [vR 1, vI v1, vU]) (st' := [vI 24]) (dg dc87 0 rfl) rfl rfl ?_
  refine ex_pu (ls' := [vR 1, vI v1, vI 24]) (st' := []) (dg dc87 1 rfl) rfl rfl ?_
  refine tape_append_L3_ok hd  ?_ FU 24 M hf
  · intro M_5 j0_6 j1_7 j2_8 hf
    exact ex_vre (dg dc87 26 rfl) rfl hf
-- GlassHill$Tape.startText
def il88 : List (Nat × Instr × Nat) := [(0, .aload_n 0, 1), (1, .iconst 0, 1), (2, .putfield 25, 3), (5, .aload_n 0, 1), (6, .iconst 0, 1), (7, .putfield 22, 3), (10, .aload_n 0, 1), (11, .iconst (-1), 1), (12, .putfield 19, 3), (15, .return_, 1)]
theorem dc88 : dcs (mC 88) il88 := dc_of (by decide +kernel)
def tape_startText  (M : MM) : OR :=
  (sM (mU M 1 4 0) fun M_1 => (sM (mU M_1 1 3 0) fun M_3 => (sM (mU M_3 1 2 (-1)) fun M_5 => some (rV, M_5))))
set_option maxRecDepth 4000 in
theorem tape_startText_ok {Z : Nat × (Nat → Int)} {d : Nat} (hd : 0 ≤ d) {M : MM}  {res : AR × MM} (hf : tape_startText  M = some res) : EX Z d 88 0 (ent 88 [vR 1]) [] M res := by
  unfold tape_startText at hf
  show EX Z _ 88 0 [vR 1] [] M res
  refine ex_pu (ls' := [vR 1]) (st' := [vR 1]) (dg dc88 0 rfl) rfl rfl ?_
  refine ex_pu (ls' := [vR 1]) (st' := [vI 0, vR 1]) (dg dc88 1 rfl) rfl rfl ?_
  refine ex_putI (dg dc88 2 rfl) rfl (LOC.st (Nat.le_of_ble_eq_true rfl) rfl) rfl rfl rfl ?_
  refine ex_gen hf (fun M_1 hM_2 hf => ?_)
  refine ex_pu (ls' := [vR 1]) (st' := [vR 1]) (dg dc88 3 rfl) rfl rfl ?_
  refine ex_pu (ls' := [vR 1]) (st' := [vI 0, vR 1]) (dg dc88 4 rfl) rfl rfl ?_
  refine ex_putI (dg dc88 5 rfl) rfl (LOC.st (Nat.le_of_ble_eq_true rfl) rfl) rfl rfl rfl ?_
  refine ex_gen hf (fun M_3 hM_4 hf => ?_)
  refine ex_pu (ls' := [vR 1]) (st' := [vR 1]) (dg dc88 6 rfl) rfl rfl ?_
  refine ex_pu (ls' := [vR 1]) (st' := [vI (-1), vR 1]) (dg dc88 7 rfl) rfl rfl ?_
  refine ex_putI (dg dc88 8 rfl) rfl (LOC.st (Nat.le_of_ble_eq_true rfl) rfl) rfl rfl rfl ?_
  refine ex_gen hf (fun M_5 hM_6 hf => ?_)
  exact ex_vre (dg dc88 9 rfl) rfl hf
-- GlassHill$Tape.failAt
def il92 : List (Nat × Instr × Nat) := [(0, .aload_n 0, 1), (1, .getfield 19, 3), (4, .iconst (-1), 1), (5, .if_icmp .ne 8, 3), (8, .aload_n 0, 1), (9, .iload_n 1, 1), (10, .putfield 19, 3), (13, .return_, 1)]
theorem dc92 : dcs (mC 92) il92 := dc_of (by decide +kernel)
def tape_failAt (v1 : Int) (M : MM) : OR :=
  (bif cmpB .ne (M 1 2) (-1) then some (rV, M) else (sM (mU M 1 2 v1) fun M_1 => some (rV, M_1)))
set_option maxRecDepth 4000 in
theorem tape_failAt_ok {Z : Nat × (Nat → Int)} {d : Nat} (hd : 0 ≤ d) {M : MM}  {v1 : Int} {res : AR × MM} (hf : tape_failAt v1 M = some res) : EX Z d 92 0 (ent 92 [vR 1, vI v1]) [] M res := by
  unfold tape_failAt at hf
  show EX Z _ 92 0 [vR 1, vI v1] [] M res
  refine ex_pu (ls' := [vR 1, vI v1]) (st' := [vR 1]) (dg dc92 0 rfl) rfl rfl ?_
  refine ex_getI (dg dc92 1 rfl) rfl (LOC.st (Nat.le_of_ble_eq_true rfl) rfl) rfl ?_
  refine ex_pu (ls' := [vR 1, vI v1]) (st' := [vI (-1), vI (M 1 2)]) (dg dc92 2 rfl) rfl rfl ?_
  refine ex_icmp (t := 13) (dg dc92 3 rfl) rfl hf (fun _ hf => ?_) (fun _ hf => ?_)
  · exact ex_vre (dg dc92 7 rfl) rfl hf
  · refine ex_pu (ls' := [vR 1, vI v1]) (st' := [vR 1]) (dg dc92 4 rfl) rfl rfl ?_
    refine ex_pu (ls' := [vR 1, vI v1]) (st' := [vI v1, vR 1]) (dg dc92 5 rfl) rfl rfl ?_
    refine ex_putI (dg dc92 6 rfl) rfl (LOC.st (Nat.le_of_ble_eq_true rfl) rfl) rfl rfl rfl ?_
    refine ex_gen hf (fun M_1 hM_2 hf => ?_)
    exact ex_vre (dg dc92 7 rfl) rfl hf
-- GlassHill$Tape.useUpPairs
def il98 : List (Nat × Instr × Nat) := [(0, .aload_n 0, 1), (1, .getfield 15, 3), (4, .istore_n 3, 1), (5, .aload_n 0, 1), (6, .iconst 0, 1), (7, .putfield 15, 3), (10, .iload_n 3, 1), (11, .iconst 2, 1), (12, .irem, 1), (13, .ifCond .eq 5, 3), (16, .iconst (-1), 1), (17, .ireturn, 1), (18, .iconst 0, 1), (19, .istore 4, 2), (21, .iload 4, 2), (23, .iconst 1, 1), (24, .iadd, 1), (25, .iload_n 3, 1), (26, .if_icmp .ge 35, 3), (29, .aload_n 0, 1), (30, .getfield 11, 3), (33, .iload 4, 2), (35, .iaload, 1), (36, .iload_n 1, 1), (37, .if_icmp .ge 16, 3), (40, .aload_n 0, 1), (41, .getfield 11, 3), (44, .iload 4, 2), (46, .iconst 1, 1), (47, .iadd, 1), (48, .iaload, 1), (49, .iload_n 2, 1), (50, .if_icmp .lt 5, 3), (53, .iconst (-1), 1), (54, .ireturn, 1), (55, .iinc 4 2, 3), (58, .goto (-37), 3), (61, .iload_n 3, 1), (62, .iconst 2, 1), (63, .idiv, 1), (64, .ireturn, 1)]
theorem dc98 : dcs (mC 98) il98 := dc_of (by decide +kernel)
def tape_useUpPairs_L21  (v1 v2 v3 : Int) (K1 : MM → OR) (K2 : MM → OR) : Nat → Int → MM → OR
  | 0, _, _ => none
  | n + 1, v4, M => (bif cmpB .ge (v4 + 1) v3 then (K1  M) else (bif inB v4 400 then (bif cmpB .ge (M 2 (v4).toNat) v1 then (K2  M) else (bif inB (v4 + 1) 400 then (bif cmpB .lt (M 2 ((v4 + 1)).toNat) v2 then (tape_useUpPairs_L21 v1 v2 v3 K1 K2 n (v4 + 2) M) else (K2  M)) else none)) else none))
set_option maxRecDepth 4000 in
theorem tape_useUpPairs_L21_ok {Z : Nat × (Nat → Int)} {d : Nat} (hd : 0 ≤ d)  {v1 v2 v3 : Int} {K1 : MM → OR} {K2 : MM → OR} {res : AR × MM} (k1 : ∀ (M : MM) (j0 j1 j2 j4 : AV), K1  M = some res → EX Z d 98 61 [j0, j1, j2, vI v3, j4] [] M res) (k2 : ∀ (M : MM) (j0 j1 j2 j3 j4 : AV), K2  M = some res → EX Z d 98 53 [j0, j1, j2, j3, j4] [] M res) : ∀ (n : Nat) (v4 : Int) (M : MM), tape_useUpPairs_L21 v1 v2 v3 K1 K2 n v4 M = some res → EX Z d 98 21 [vR 1, vI v1, vI v2, vI v3, vI v4] [] M res := by
  intro n
  induction n with
  | zero =>
    intro v4 M hf
    unfold tape_useUpPairs_L21 at hf
    cases hf
  | succ n ih =>
    intro v4 M hf
    unfold tape_useUpPairs_L21 at hf
    refine ex_pu (ls' := [vR 1, vI v1, vI v2, vI v3, vI v4]) (st' := [vI v4]) (dg dc98 14 rfl) rfl rfl ?_
    refine ex_pu (ls' := [vR 1, vI v1, vI v2, vI v3, vI v4]) (st' := [vI 1, vI v4]) (dg dc98 15 rfl) rfl rfl ?_
    refine ex_pu (ls' := [vR 1, vI v1, vI v2, vI v3, vI v4]) (st' := [vI (v4 + 1)]) (dg dc98 16 rfl) rfl rfl ?_
    refine ex_pu (ls' := [vR 1, vI v1, vI v2, vI v3, vI v4]) (st' := [vI v3, vI (v4 + 1)]) (dg dc98 17 rfl) rfl rfl ?_
    refine ex_icmp (t := 61) (dg dc98 18 rfl) rfl hf (fun _ hf => ?_) (fun _ hf => ?_)
    · exact k1  M _ _ _ _ hf
    · refine ex_pu (ls' := [vR 1, vI v1, vI v2, vI v3, vI v4]) (st' := [vR 1]) (dg dc98 19 rfl) rfl rfl ?_
      refine ex_getO (dg dc98 20 rfl) rfl (LOC.st (Nat.le_of_ble_eq_true rfl) rfl) rfl ?_
      show EX Z _ 98 _ [vR 1, vI v1, vI v2, vI v3, vI v4] [vR 2] _ _
      refine ex_pu (ls' := [vR 1, vI v1, vI v2, vI v3, vI v4]) (st' := [vI v4, vR 2]) (dg dc98 21 rfl) rfl rfl ?_
      refine ex_iald (dg dc98 22 rfl) (LOC.st (Nat.le_of_ble_eq_true rfl) rfl) rfl hf (fun _ hf => ?_)
      refine ex_pu (ls' := [vR 1, vI v1, vI v2, vI v3, vI v4]) (st' := [vI v1, vI (M 2 (v4).toNat)]) (dg dc98 23 rfl) rfl rfl ?_
      refine ex_icmp (t := 53) (dg dc98 24 rfl) rfl hf (fun _ hf => ?_) (fun _ hf => ?_)
      · exact k2  M _ _ _ _ _ hf
      · refine ex_pu (ls' := [vR 1, vI v1, vI v2, vI v3, vI v4]) (st' := [vR 1]) (dg dc98 25 rfl) rfl rfl ?_
        refine ex_getO (dg dc98 26 rfl) rfl (LOC.st (Nat.le_of_ble_eq_true rfl) rfl) rfl ?_
        show EX Z _ 98 _ [vR 1, vI v1, vI v2, vI v3, vI v4] [vR 2] _ _
        refine ex_pu (ls' := [vR 1, vI v1, vI v2, vI v3, vI v4]) (st' := [vI v4, vR 2]) (dg dc98 27 rfl) rfl rfl ?_
        refine ex_pu (ls' := [vR 1, vI v1, vI v2, vI v3, vI v4]) (st' := [vI 1, vI v4, vR 2]) (dg dc98 28 rfl) rfl rfl ?_
        refine ex_pu (ls' := [vR 1, vI v1, vI v2, vI v3, vI v4]) (st' := [vI (v4 + 1), vR 2]) (dg dc98 29 rfl) rfl rfl ?_
        refine ex_iald (dg dc98 30 rfl) (LOC.st (Nat.le_of_ble_eq_true rfl) rfl) rfl hf (fun _ hf => ?_)
        refine ex_pu (ls' := [vR 1, vI v1, vI v2, vI v3, vI v4]) (st' := [vI v2, vI (M 2 ((v4 + 1)).toNat)]) (dg dc98 31 rfl) rfl rfl ?_
        refine ex_icmp (t := 55) (dg dc98 32 rfl) rfl hf (fun _ hf => ?_) (fun _ hf => ?_)
        · refine ex_pu (ls' := [vR 1, vI v1, vI v2, vI v3, vI (v4 + 2)]) (st' := []) (dg dc98 35 rfl) rfl rfl ?_
          refine ex_goto (t := 21) (dg dc98 36 rfl) rfl rfl ?_
          exact ih (v4 + 2) M hf
        · exact k2  M _ _ _ _ _ hf
def tape_useUpPairs (v1 : Int) (v2 : Int) (M : MM) : OR :=
  (sM (mU M 1 1 0) fun M_1 => (bif cmpB .eq ((w32 (M 1 1)).tmod (w32 2)) 0 then (tape_useUpPairs_L21 v1 v2 (M 1 1) (fun M_3 => some (rI ((w32 (M 1 1)).tdiv (w32 2)), M_3)) (fun M_8 => some (rI (-1), M_8)) FU 0 M_1) else some (rI (-1), M_1)))
set_option maxRecDepth 4000 in
theorem tape_useUpPairs_ok {Z : Nat × (Nat → Int)} {d : Nat} (hd : 0 ≤ d) {M : MM}  {v1 v2 : Int} {res : AR × MM} (hf : tape_useUpPairs v1 v2 M = some res) : EX Z d 98 0 (ent 98 [vR 1, vI v1, vI v2]) [] M res := by
  unfold tape_useUpPairs at hf
  show EX Z _ 98 0 [vR 1, vI v1, vI v2, vU, vU] [] M res
  refine ex_pu (ls' := [vR 1, vI v1, vI v2, vU, vU]) (st' := [vR 1]) (dg dc98 0 rfl) rfl rfl ?_
  refine ex_getI (dg dc98 1 rfl) rfl (LOC.st (Nat.le_of_ble_eq_true rfl) rfl) rfl ?_
  refine ex_pu (ls' := [vR 1, vI v1, vI v2, vI (M 1 1), vU]) (st' := []) (dg dc98 2 rfl) rfl rfl ?_
  refine ex_pu (ls' := [vR 1, vI v1, vI v2, vI (M 1 1), vU]) (st' := [vR 1]) (dg dc98 3 rfl) rfl rfl ?_
  refine ex_pu (ls' := [vR 1, vI v1, vI v2, vI (M 1 1), vU]) (st' := [vI 0, vR 1]) (dg dc98 4 rfl) rfl rfl ?_
  refine ex_putI (dg dc98 5 rfl) rfl (LOC.st (Nat.le_of_ble_eq_true rfl) rfl) rfl rfl rfl ?_
  refine ex_gen hf (fun M_1 hM_2 hf => ?_)
  refine ex_pu (ls' := [vR 1, vI v1, vI v2, vI (M 1 1), vU]) (st' := [vI (M 1 1)]) (dg dc98 6 rfl) rfl rfl ?_
  refine ex_pu (ls' := [vR 1, vI v1, vI v2, vI (M 1 1), vU]) (st' := [vI 2, vI (M 1 1)]) (dg dc98 7 rfl) rfl rfl ?_
  refine ex_irem (dg dc98 8 rfl) (by decide +kernel) ?_
  refine ex_if (t := 18) (dg dc98 9 rfl) rfl hf (fun _ hf => ?_) (fun _ hf => ?_)
  · refine ex_pu (ls' := [vR 1, vI v1, vI v2, vI (M 1 1), vU]) (st' := [vI 0]) (dg dc98 12 rfl) rfl rfl ?_
    refine ex_pu (ls' := [vR 1, vI v1, vI v2, vI (M 1 1), vI 0]) (st' := []) (dg dc98 13 rfl) rfl rfl ?_
    refine tape_useUpPairs_L21_ok hd  ?_ ?_ FU 0 M_1 hf
    · intro M_3 j0_4 j1_5 j2_6 j4_7 hf
      refine ex_pu (ls' := [j0_4, j1_5, j2_6, vI (M 1 1), j4_7]) (st' := [vI (M 1 1)]) (dg dc98 37 rfl) rfl rfl ?_
      refine ex_pu (ls' := [j0_4, j1_5, j2_6, vI (M 1 1), j4_7]) (st' := [vI 2, vI (M 1 1)]) (dg dc98 38 rfl) rfl rfl ?_
      refine ex_idiv (dg dc98 39 rfl) (by decide +kernel) ?_
      exact ex_ire (dg dc98 40 rfl) rfl hf
    · intro M_8 j0_9 j1_10 j2_11 j3_12 j4_13 hf
      refine ex_pu (ls' := [j0_9, j1_10, j2_11, j3_12, j4_13]) (st' := [vI (-1)]) (dg dc98 33 rfl) rfl rfl ?_
      exact ex_ire (dg dc98 34 rfl) rfl hf
  · refine ex_pu (ls' := [vR 1, vI v1, vI v2, vI (M 1 1), vU]) (st' := [vI (-1)]) (dg dc98 10 rfl) rfl rfl ?_
    exact ex_ire (dg dc98 11 rfl) rfl hf
-- GlassHill$Tape.skipBlanks
def il99 : List (Nat × Instr × Nat) := [(0, .aload_n 0, 1), (1, .getfield 25, 3), (4, .aload_n 0, 1), (5, .getfield 15, 3), (8, .if_icmp .ge 30, 3), (11, .aload_n 0, 1), (12, .getfield 11, 3), (15, .aload_n 0, 1), (16, .getfield 25, 3), (19, .iaload, 1), (20, .bipush 32, 2), (22, .if_icmp .ne 16, 3), (25, .aload_n 0, 1), (26, .dup, 1), (27, .getfield 25, 3), (30, .iconst 1, 1), (31, .iadd, 1), (32, .putfield 25, 3), (35, .goto (-35), 3), (38, .return_, 1)]
theorem dc99 : dcs (mC 99) il99 := dc_of (by decide +kernel)
def tape_skipBlanks_L0  (K1 : MM → OR) : Nat → MM → OR
  | 0, _ => none
  | n + 1, M => (bif cmpB .ge (M 1 4) (M 1 1) then (K1  M) else (bif inB (M 1 4) 400 then (bif cmpB .ne (M 2 ((M 1 4)).toNat) 32 then (K1  M) else (sM (mU M 1 4 ((M 1 4) + 1)) fun M_3 => (tape_skipBlanks_L0  K1 n  M_3))) else none))
set_option maxRecDepth 4000 in
theorem tape_skipBlanks_L0_ok {Z : Nat × (Nat → Int)} {d : Nat} (hd : 0 ≤ d)  {K1 : MM → OR} {res : AR × MM} (k1 : ∀ (M : MM) (j0 : AV), K1  M = some res → EX Z d 99 38 [j0] [] M res) : ∀ (n : Nat) (M : MM), tape_skipBlanks_L0  K1 n  M = some res → EX Z d 99 0 [vR 1] [] M res := by
  intro n
  induction n with
  | zero =>
    intro M hf
    unfold tape_skipBlanks_L0 at hf
    cases hf
  | succ n ih =>
    intro M hf
    unfold tape_skipBlanks_L0 at hf
    refine ex_pu (ls' := [vR 1]) (st' := [vR 1]) (dg dc99 0 rfl) rfl rfl ?_
    refine ex_getI (dg dc99 1 rfl) rfl (LOC.st (Nat.le_of_ble_eq_true rfl) rfl) rfl ?_
    refine ex_pu (ls' := [vR 1]) (st' := [vR 1, vI (M 1 4)]) (dg dc99 2 rfl) rfl rfl ?_
    refine ex_getI (dg dc99 3 rfl) rfl (LOC.st (Nat.le_of_ble_eq_true rfl) rfl) rfl ?_
    refine ex_icmp (t := 38) (dg dc99 4 rfl) rfl hf (fun _ hf => ?_) (fun _ hf => ?_)
    · exact k1  M _ hf
    · refine ex_pu (ls' := [vR 1]) (st' := [vR 1]) (dg dc99 5 rfl) rfl rfl ?_
      refine ex_getO (dg dc99 6 rfl) rfl (LOC.st (Nat.le_of_ble_eq_true rfl) rfl) rfl ?_
      show EX Z _ 99 _ [vR 1] [vR 2] _ _
      refine ex_pu (ls' := [vR 1]) (st' := [vR 1, vR 2]) (dg dc99 7 rfl) rfl rfl ?_
      refine ex_getI (dg dc99 8 rfl) rfl (LOC.st (Nat.le_of_ble_eq_true rfl) rfl) rfl ?_
      refine ex_iald (dg dc99 9 rfl) (LOC.st (Nat.le_of_ble_eq_true rfl) rfl) rfl hf (fun _ hf => ?_)
      refine ex_pu (ls' := [vR 1]) (st' := [vI 32, vI (M 2 ((M 1 4)).toNat)]) (dg dc99 10 rfl) rfl rfl ?_
      refine ex_icmp (t := 38) (dg dc99 11 rfl) rfl hf (fun _ hf => ?_) (fun _ hf => ?_)
      · exact k1  M _ hf
      · refine ex_pu (ls' := [vR 1]) (st' := [vR 1]) (dg dc99 12 rfl) rfl rfl ?_
        refine ex_pu (ls' := [vR 1]) (st' := [vR 1, vR 1]) (dg dc99 13 rfl) rfl rfl ?_
        refine ex_getI (dg dc99 14 rfl) rfl (LOC.st (Nat.le_of_ble_eq_true rfl) rfl) rfl ?_
        refine ex_pu (ls' := [vR 1]) (st' := [vI 1, vI (M 1 4), vR 1]) (dg dc99 15 rfl) rfl rfl ?_
        refine ex_pu (ls' := [vR 1]) (st' := [vI ((M 1 4) + 1), vR 1]) (dg dc99 16 rfl) rfl rfl ?_
        refine ex_putI (dg dc99 17 rfl) rfl (LOC.st (Nat.le_of_ble_eq_true rfl) rfl) rfl rfl rfl ?_
        refine ex_gen hf (fun M_3 hM_4 hf => ?_)
        refine ex_goto (t := 0) (dg dc99 18 rfl) rfl rfl ?_
        exact ih  M_3 hf
def tape_skipBlanks  (M : MM) : OR :=
  (bif cmpB .ge (M 1 4) (M 1 1) then some (rV, M) else (bif inB (M 1 4) 400 then (bif cmpB .ne (M 2 ((M 1 4)).toNat) 32 then some (rV, M) else (sM (mU M 1 4 ((M 1 4) + 1)) fun M_1 => (tape_skipBlanks_L0  (fun M_5 => some (rV, M_5)) FU  M_1))) else none))
set_option maxRecDepth 4000 in
theorem tape_skipBlanks_ok {Z : Nat × (Nat → Int)} {d : Nat} (hd : 0 ≤ d) {M : MM}  {res : AR × MM} (hf : tape_skipBlanks  M = some res) : EX Z d 99 0 (ent 99 [vR 1]) [] M res := by
  unfold tape_skipBlanks at hf
  show EX Z _ 99 0 [vR 1] [] M res
  refine ex_pu (ls' := [vR 1]) (st' := [vR 1]) (dg dc99 0 rfl) rfl rfl ?_
  refine ex_getI (dg dc99 1 rfl) rfl (LOC.st (Nat.le_of_ble_eq_true rfl) rfl) rfl ?_
  refine ex_pu (ls' := [vR 1]) (st' := [vR 1, vI (M 1 4)]) (dg dc99 2 rfl) rfl rfl ?_
  refine ex_getI (dg dc99 3 rfl) rfl (LOC.st (Nat.le_of_ble_eq_true rfl) rfl) rfl ?_
  refine ex_icmp (t := 38) (dg dc99 4 rfl) rfl hf (fun _ hf => ?_) (fun _ hf => ?_)
  · exact ex_vre (dg dc99 19 rfl) rfl hf
  · refine ex_pu (ls' := [vR 1]) (st' := [vR 1]) (dg dc99 5 rfl) rfl rfl ?_
    refine ex_getO (dg dc99 6 rfl) rfl (LOC.st (Nat.le_of_ble_eq_true rfl) rfl) rfl ?_
    show EX Z _ 99 _ [vR 1] [vR 2] _ _
    refine ex_pu (ls' := [vR 1]) (st' := [vR 1, vR 2]) (dg dc99 7 rfl) rfl rfl ?_
    refine ex_getI (dg dc99 8 rfl) rfl (LOC.st (Nat.le_of_ble_eq_true rfl) rfl) rfl ?_
    refine ex_iald (dg dc99 9 rfl) (LOC.st (Nat.le_of_ble_eq_true rfl) rfl) rfl hf (fun _ hf => ?_)
    refine ex_pu (ls' := [vR 1]) (st' := [vI 32, vI (M 2 ((M 1 4)).toNat)]) (dg dc99 10 rfl) rfl rfl ?_
    refine ex_icmp (t := 38) (dg dc99 11 rfl) rfl hf (fun _ hf => ?_) (fun _ hf => ?_)
    · exact ex_vre (dg dc99 19 rfl) rfl hf
    · refine ex_pu (ls' := [vR 1]) (st' := [vR 1]) (dg dc99 12 rfl) rfl rfl ?_
      refine ex_pu (ls' := [vR 1]) (st' := [vR 1, vR 1]) (dg dc99 13 rfl) rfl rfl ?_
      refine ex_getI (dg dc99 14 rfl) rfl (LOC.st (Nat.le_of_ble_eq_true rfl) rfl) rfl ?_
      refine ex_pu (ls' := [vR 1]) (st' := [vI 1, vI (M 1 4), vR 1]) (dg dc99 15 rfl) rfl rfl ?_
      refine ex_pu (ls' := [vR 1]) (st' := [vI ((M 1 4) + 1), vR 1]) (dg dc99 16 rfl) rfl rfl ?_
      refine ex_putI (dg dc99 17 rfl) rfl (LOC.st (Nat.le_of_ble_eq_true rfl) rfl) rfl rfl rfl ?_
      refine ex_gen hf (fun M_1 hM_2 hf => ?_)
      refine ex_goto (t := 0) (dg dc99 18 rfl) rfl rfl ?_
      refine tape_skipBlanks_L0_ok hd  ?_ FU  M_1 hf
      · intro M_5 j0_6 hf
        exact ex_vre (dg dc99 19 rfl) rfl hf
-- GlassHill$Tape.isWithin
def il100 : List (Nat × Instr × Nat) := [(0, .iload_n 0, 1), (1, .iload_n 1, 1), (2, .if_icmp .lt 12, 3), (5, .iload_n 0, 1), (6, .iload_n 2, 1), (7, .if_icmp .gt 7, 3), (10, .iconst 1, 1), (11, .goto 4, 3), (14, .iconst 0, 1), (15, .ireturn, 1)]
theorem dc100 : dcs (mC 100) il100 := dc_of (by decide +kernel)
def tape_isWithin (v0 : Int) (v1 : Int) (v2 : Int) (M : MM) : OR :=
  (bif cmpB .lt v0 v1 then some (rI 0, M) else (bif cmpB .gt v0 v2 then some (rI 0, M) else some (rI 1, M)))
set_option maxRecDepth 4000 in
theorem tape_isWithin_ok {Z : Nat × (Nat → Int)} {d : Nat} (hd : 0 ≤ d) {M : MM}  {v0 v1 v2 : Int} {res : AR × MM} (hf : tape_isWithin v0 v1 v2 M = some res) : EX Z d 100 0 (ent 100 [vI v0, vI v1, vI v2]) [] M res := by
  unfold tape_isWithin at hf
  show EX Z _ 100 0 [vI v0, vI v1, vI v2] [] M res
  refine ex_pu (ls' := [vI v0, vI v1, vI v2]) (st' := [vI v0]) (dg dc100 0 rfl) rfl rfl ?_
  refine ex_pu (ls' := [vI v0, vI v1, vI v2]) (st' := [vI v1, vI v0]) (dg dc100 1 rfl) rfl rfl ?_
  refine ex_icmp (t := 14) (dg dc100 2 rfl) rfl hf (fun _ hf => ?_) (fun _ hf => ?_)
  · refine ex_pu (ls' := [vI v0, vI v1, vI v2]) (st' := [vI 0]) (dg dc100 8 rfl) rfl rfl ?_
    exact ex_ire (dg dc100 9 rfl) rfl hf
  · refine ex_pu (ls' := [vI v0, vI v1, vI v2]) (st' := [vI v0]) (dg dc100 3 rfl) rfl rfl ?_
    refine ex_pu (ls' := [vI v0, vI v1, vI v2]) (st' := [vI v2, vI v0]) (dg dc100 4 rfl) rfl rfl ?_
    refine ex_icmp (t := 14) (dg dc100 5 rfl) rfl hf (fun _ hf => ?_) (fun _ hf => ?_)
    · refine ex_pu (ls' := [vI v0, vI v1, vI v2]) (st' := [vI 0]) (dg dc100 8 rfl) rfl rfl ?_
      exact ex_ire (dg dc100 9 rfl) rfl hf
    · refine ex_pu (ls' := [vI v0, vI v1, vI v2]) (st' := [vI 1]) (dg dc100 6 rfl) rfl rfl ?_
      refine ex_goto (t := 15) (dg dc100 7 rfl) rfl rfl ?_
      exact ex_ire (dg dc100 9 rfl) rfl hf
-- GlassHill$Ways.measure
def il102 : List (Nat × Instr × Nat) := [(0, .aload_n 2, 1), (1, .ldc 22, 2), (3, .invokestatic 23, 3), (6, .aload_n 2, 1), (7, .iload_n 1, 1), (8, .iconst 0, 1), (9, .iastore, 1), (10, .iconst 0, 1), (11, .istore_n 3, 1), (12, .iload_n 3, 1), (13, .bipush 10, 2), (15, .if_icmp .ge 119, 3), (18, .iconst 0, 1), (19, .istore 4, 2), (21, .iload 4, 2), (23, .aload_n 0, 1), (24, .getfield 18, 3), (27, .getfield 29, 3), (30, .if_icmp .ge 98, 3), (33, .iload 4, 2), (35, .bipush 16, 2), (37, .if_icmp .ge 91, 3), (40, .aload_n 0, 1), (41, .getfield 18, 3), (44, .getfield 35, 3), (47, .iconst 2, 1), (48, .iload 4, 2), (50, .imul, 1), (51, .iaload, 1), (52, .istore 5, 2), (54, .aload_n 0, 1), (55, .getfield 18, 3), (58, .getfield 35, 3), (61, .iconst 2, 1), (62, .iload 4, 2), (64, .imul, 1), (65, .iconst 1, 1), (66, .iadd, 1), (67, .iaload, 1), (68, .istore 6, 2), (70, .aload_n 2, 1), (71, .iload 5, 2), (73, .aload_n 2, 1), (74, .iload 5, 2), (76, .iaload, 1), (77, .aload_n 2, 1), (78, .iload 6, 2), (80, .iaload, 1), (81, .aload_n 0, 1), (82, .getfield 18, 3), (85, .getfield 38, 3), (88, .iload 4, 2), (90, .iaload, 1), (91, .iadd, 1), (92, .invokestatic 41, 3), (95, .iastore, 1), (96, .aload_n 2, 1), (97, .iload 6, 2), (99, .aload_n 2, 1), (100, .iload 6, 2), (102, .iaload, 1), (103, .aload_n 2, 1), (104, .iload 5, 2), (106, .iaload, 1), (107, .aload_n 0, 1), (108, .getfield 18, 3), (111, .getfield 38, 3), (114, .iload 4, 2), (116, .iaload, 1), (117, .iadd, 1), (118, .invokestatic 41, 3), (121, .iastore, 1), (122, .iinc 4 1, 3), (125, .goto (-104), 3), (128, .iinc 3 1, 3), (131, .goto (-119), 3), (134, .return_, 1)]
theorem dc102 : dcs (mC 102) il102 := dc_of (by decide +kernel)
def ways_measure_L21 (b : Nat) (v3 : Int) (K1 : MM → OR) : Nat → Int → MM → OR
  | 0, _, _ => none
  | n + 1, v4, M => (bif cmpB .ge v4 (M 3 2) then (K1  M) else (bif cmpB .ge v4 16 then (K1  M) else (bif inB (2 * v4) 32 then (bif inB ((2 * v4) + 1) 32 then (bif inB (M 11 ((2 * v4)).toNat) 10 then (bif inB (M 11 (((2 * v4) + 1)).toNat) 10 then (bif inB v4 16 then (bif inB (M 11 ((2 * v4)).toNat) 10 then (sM (mU M b ((M 11 ((2 * v4)).toNat)).toNat (imin (M b ((M 11 ((2 * v4)).toNat)).toNat) ((M b ((M 11 (((2 * v4) + 1)).toNat)).toNat) + (M 12 (v4).toNat)))) fun M_6 => (bif inB (M 11 (((2 * v4) + 1)).toNat) 10 then (bif inB (M 11 ((2 * v4)).toNat) 10 then (bif inB v4 16 then (bif inB (M 11 (((2 * v4) + 1)).toNat) 10 then (sM (mU M_6 b ((M 11 (((2 * v4) + 1)).toNat)).toNat (imin (M_6 b ((M 11 (((2 * v4) + 1)).toNat)).toNat) ((M_6 b ((M 11 ((2 * v4)).toNat)).toNat) + (M_6 12 (v4).toNat)))) fun M_8 => (ways_measure_L21 b v3 K1 n (v4 + 1) M_8)) else none) else none) else none) else none)) else none) else none) else none) else none) else none) else none)))
set_option maxRecDepth 4000 in
theorem ways_measure_L21_ok {Z : Nat × (Nat → Int)} {d : Nat} (hd : 1 ≤ d) {b : Nat} (hb : isRow b) {v3 : Int} {K1 : MM → OR} {res : AR × MM} (k1 : ∀ (M : MM) (j1 j4 j5 j6 : AV), K1  M = some res → EX Z d 102 128 [vR 158, j1, vR b, vI v3, j4, j5, j6] [] M res) : ∀ (n : Nat) (v4 : Int) (M : MM) (j1 j5 j6 : AV), ways_measure_L21 b v3 K1 n v4 M = some res → EX Z d 102 21 [vR 158, j1, vR b, vI v3, vI v4, j5, j6] [] M res := by
  obtain ⟨e9, rfl⟩ : ∃ e9, d = e9 + 1 := ⟨d - 1, by omega⟩
  intro n
  induction n with
  | zero =>
    intro v4 M j1 j5 j6 hf
    unfold ways_measure_L21 at hf
    cases hf
  | succ n ih =>
    intro v4 M j1 j5 j6 hf
    unfold ways_measure_L21 at hf
    refine ex_pu (ls' := [vR 158, j1, vR b, vI v3, vI v4, j5, j6]) (st' := [vI v4]) (dg dc102 14 rfl) rfl rfl ?_
    refine ex_pu (ls' := [vR 158, j1, vR b, vI v3, vI v4, j5, j6]) (st' := [vR 158, vI v4]) (dg dc102 15 rfl) rfl rfl ?_
    refine ex_getF (dg dc102 16 rfl) rfl (LOC.st (Nat.le_of_ble_eq_true rfl) rfl) rfl ?_
    refine ex_getI (dg dc102 17 rfl) rfl (LOC.st (Nat.le_of_ble_eq_true rfl) rfl) rfl ?_
    refine ex_icmp (t := 128) (dg dc102 18 rfl) rfl hf (fun _ hf => ?_) (fun _ hf => ?_)
    · exact k1  M _ _ _ _ hf
    · refine ex_pu (ls' := [vR 158, j1, vR b, vI v3, vI v4, j5, j6]) (st' := [vI v4]) (dg dc102 19 rfl) rfl rfl ?_
      refine ex_pu (ls' := [vR 158, j1, vR b, vI v3, vI v4, j5, j6]) (st' := [vI 16, vI v4]) (dg dc102 20 rfl) rfl rfl ?_
      refine ex_icmp (t := 128) (dg dc102 21 rfl) rfl hf (fun _ hf => ?_) (fun _ hf => ?_)
      · exact k1  M _ _ _ _ hf
      · refine ex_pu (ls' := [vR 158, j1, vR b, vI v3, vI v4, j5, j6]) (st' := [vR 158]) (dg dc102 22 rfl) rfl rfl ?_
        refine ex_getF (dg dc102 23 rfl) rfl (LOC.st (Nat.le_of_ble_eq_true rfl) rfl) rfl ?_
        refine ex_getO (dg dc102 24 rfl) rfl (LOC.st (Nat.le_of_ble_eq_true rfl) rfl) rfl ?_
        show EX Z _ 102 _ [vR 158, j1, vR b, vI v3, vI v4, j5, j6] [vR 11] _ _
        refine ex_pu (ls' := [vR 158, j1, vR b, vI v3, vI v4, j5, j6]) (st' := [vI 2, vR 11]) (dg dc102 25 rfl) rfl rfl ?_
        refine ex_pu (ls' := [vR 158, j1, vR b, vI v3, vI v4, j5, j6]) (st' := [vI v4, vI 2, vR 11]) (dg dc102 26 rfl) rfl rfl ?_
        refine ex_pu (ls' := [vR 158, j1, vR b, vI v3, vI v4, j5, j6]) (st' := [vI (2 * v4), vR 11]) (dg dc102 27 rfl) rfl rfl ?_
        refine ex_iald (dg dc102 28 rfl) (LOC.st (Nat.le_of_ble_eq_true rfl) rfl) rfl hf (fun _ hf => ?_)
        refine ex_pu (ls' := [vR 158, j1, vR b, vI v3, vI v4, vI (M 11 ((2 * v4)).toNat), j6]) (st' := []) (dg dc102 29 rfl) rfl rfl ?_
        refine ex_pu (ls' := [vR 158, j1, vR b, vI v3, vI v4, vI (M 11 ((2 * v4)).toNat), j6]) (st' := [vR 158]) (dg dc102 30 rfl) rfl rfl ?_
        refine ex_getF (dg dc102 31 rfl) rfl (LOC.st (Nat.le_of_ble_eq_true rfl) rfl) rfl ?_
        refine ex_getO (dg dc102 32 rfl) rfl (LOC.st (Nat.le_of_ble_eq_true rfl) rfl) rfl ?_
        show EX Z _ 102 _ [vR 158, j1, vR b, vI v3, vI v4, vI (M 11 ((2 * v4)).toNat), j6] [vR 11] _ _
        refine ex_pu (ls' := [vR 158, j1, vR b, vI v3, vI v4, vI (M 11 ((2 * v4)).toNat), j6]) (st' := [vI 2, vR 11]) (dg dc102 33 rfl) rfl rfl ?_
        refine ex_pu (ls' := [vR 158, j1, vR b, vI v3, vI v4, vI (M 11 ((2 * v4)).toNat), j6]) (st' := [vI v4, vI 2, vR 11]) (dg dc102 34 rfl) rfl rfl ?_
        refine ex_pu (ls' := [vR 158, j1, vR b, vI v3, vI v4, vI (M 11 ((2 * v4)).toNat), j6]) (st' := [vI (2 * v4), vR 11]) (dg dc102 35 rfl) rfl rfl ?_
        refine ex_pu (ls' := [vR 158, j1, vR b, vI v3, vI v4, vI (M 11 ((2 * v4)).toNat), j6]) (st' := [vI 1, vI (2 * v4), vR 11]) (dg dc102 36 rfl) rfl rfl ?_
        refine ex_pu (ls' := [vR 158, j1, vR b, vI v3, vI v4, vI (M 11 ((2 * v4)).toNat), j6]) (st' := [vI ((2 * v4) + 1), vR 11]) (dg dc102 37 rfl) rfl rfl ?_
        refine ex_iald (dg dc102 38 rfl) (LOC.st (Nat.le_of_ble_eq_true rfl) rfl) rfl hf (fun _ hf => ?_)
        refine ex_pu (ls' := [vR 158, j1, vR b, vI v3, vI v4, vI (M 11 ((2 * v4)).toNat), vI (M 11 (((2 * v4) + 1)).toNat)]) (st' := []) (dg dc102 39 rfl) rfl rfl ?_
        refine ex_pu (ls' := [vR 158, j1, vR b, vI v3, vI v4, vI (M 11 ((2 * v4)).toNat), vI (M 11 (((2 * v4) + 1)).toNat)]) (st' := [vR b]) (dg dc102 40 rfl) rfl rfl ?_
        refine ex_pu (ls' := [vR 158, j1, vR b, vI v3, vI v4, vI (M 11 ((2 * v4)).toNat), vI (M 11 (((2 * v4) + 1)).toNat)]) (st' := [vI (M 11 ((2 * v4)).toNat), vR b]) (dg dc102 41 rfl) rfl rfl ?_
        refine ex_pu (ls' := [vR 158, j1, vR b, vI v3, vI v4, vI (M 11 ((2 * v4)).toNat), vI (M 11 (((2 * v4) + 1)).toNat)]) (st' := [vR b, vI (M 11 ((2 * v4)).toNat), vR b]) (dg dc102 42 rfl) rfl rfl ?_
        refine ex_pu (ls' := [vR 158, j1, vR b, vI v3, vI v4, vI (M 11 ((2 * v4)).toNat), vI (M 11 (((2 * v4) + 1)).toNat)]) (st' := [vI (M 11 ((2 * v4)).toNat), vR b, vI (M 11 ((2 * v4)).toNat), vR b]) (dg dc102 43 rfl) rfl rfl ?_
        refine ex_iald (dg dc102 44 rfl) (locRow0 hb) rfl hf (fun _ hf => ?_)
        refine ex_pu (ls' := [vR 158, j1, vR b, vI v3, vI v4, vI (M 11 ((2 * v4)).toNat), vI (M 11 (((2 * v4) + 1)).toNat)]) (st' := [vR b, vI (M b ((M 11 ((2 * v4)).toNat)).toNat), vI (M 11 ((2 * v4)).toNat), vR b]) (dg dc102 45 rfl) rfl rfl ?_
        refine ex_pu (ls' := [vR 158, j1, vR b, vI v3, vI v4, vI (M 11 ((2 * v4)).toNat), vI (M 11 (((2 * v4) + 1)).toNat)]) (st' := [vI (M 11 (((2 * v4) + 1)).toNat), vR b, vI (M b ((M 11 ((2 * v4)).toNat)).toNat), vI (M 11 ((2 * v4)).toNat), vR b]) (dg dc102 46 rfl) rfl rfl ?_
        refine ex_iald (dg dc102 47 rfl) (locRow0 hb) rfl hf (fun _ hf => ?_)
        refine ex_pu (ls' := [vR 158, j1, vR b, vI v3, vI v4, vI (M 11 ((2 * v4)).toNat), vI (M 11 (((2 * v4) + 1)).toNat)]) (st' := [vR 158, vI (M b ((M 11 (((2 * v4) + 1)).toNat)).toNat), vI (M b ((M 11 ((2 * v4)).toNat)).toNat), vI (M 11 ((2 * v4)).toNat), vR b]) (dg dc102 48 rfl) rfl rfl ?_
        refine ex_getF (dg dc102 49 rfl) rfl (LOC.st (Nat.le_of_ble_eq_true rfl) rfl) rfl ?_
        refine ex_getO (dg dc102 50 rfl) rfl (LOC.st (Nat.le_of_ble_eq_true rfl) rfl) rfl ?_
        show EX Z _ 102 _ [vR 158, j1, vR b, vI v3, vI v4, vI (M 11 ((2 * v4)).toNat), vI (M 11 (((2 * v4) + 1)).toNat)] [vR 12, vI (M b ((M 11 (((2 * v4) + 1)).toNat)).toNat), vI (M b ((M 11 ((2 * v4)).toNat)).toNat), vI (M 11 ((2 * v4)).toNat), vR b] _ _
        refine ex_pu (ls' := [vR 158, j1, vR b, vI v3, vI v4, vI (M 11 ((2 * v4)).toNat), vI (M 11 (((2 * v4) + 1)).toNat)]) (st' := [vI v4, vR 12, vI (M b ((M 11 (((2 * v4) + 1)).toNat)).toNat), vI (M b ((M 11 ((2 * v4)).toNat)).toNat), vI (M 11 ((2 * v4)).toNat), vR b]) (dg dc102 51 rfl) rfl rfl ?_
        refine ex_iald (dg dc102 52 rfl) (LOC.st (Nat.le_of_ble_eq_true rfl) rfl) rfl hf (fun _ hf => ?_)
        refine ex_pu (ls' := [vR 158, j1, vR b, vI v3, vI v4, vI (M 11 ((2 * v4)).toNat), vI (M 11 (((2 * v4) + 1)).toNat)]) (st' := [vI ((M b ((M 11 (((2 * v4) + 1)).toNat)).toNat) + (M 12 (v4).toNat)), vI (M b ((M 11 ((2 * v4)).toNat)).toNat), vI (M 11 ((2 * v4)).toNat), vR b]) (dg dc102 53 rfl) rfl rfl ?_
        refine ex_min (dg dc102 54 rfl) rfl rfl ?_
        refine ex_iast (dg dc102 55 rfl) (locRow0 hb) rfl (ne17_Row hb) hf (fun _ hf => ?_)
        refine ex_gen hf (fun M_6 hM_7 hf => ?_)
        refine ex_pu (ls' := [vR 158, j1, vR b, vI v3, vI v4, vI (M 11 ((2 * v4)).toNat), vI (M 11 (((2 * v4) + 1)).toNat)]) (st' := [vR b]) (dg dc102 56 rfl) rfl rfl ?_
        refine ex_pu (ls' := [vR 158, j1, vR b, vI v3, vI v4, vI (M 11 ((2 * v4)).toNat), vI (M 11 (((2 * v4) + 1)).toNat)]) (st' := [vI (M 11 (((2 * v4) + 1)).toNat), vR b]) (dg dc102 57 rfl) rfl rfl ?_
        refine ex_pu (ls' := [vR 158, j1, vR b, vI v3, vI v4, vI (M 11 ((2 * v4)).toNat), vI (M 11 (((2 * v4) + 1)).toNat)]) (st' := [vR b, vI (M 11 (((2 * v4) + 1)).toNat), vR b]) (dg dc102 58 rfl) rfl rfl ?_
        refine ex_pu (ls' := [vR 158, j1, vR b, vI v3, vI v4, vI (M 11 ((2 * v4)).toNat), vI (M 11 (((2 * v4) + 1)).toNat)]) (st' := [vI (M 11 (((2 * v4) + 1)).toNat), vR b, vI (M 11 (((2 * v4) + 1)).toNat), vR b]) (dg dc102 59 rfl) rfl rfl ?_
        refine ex_iald (dg dc102 60 rfl) (locRow0 hb) rfl hf (fun _ hf => ?_)
        refine ex_pu (ls' := [vR 158, j1, vR b, vI v3, vI v4, vI (M 11 ((2 * v4)).toNat), vI (M 11 (((2 * v4) + 1)).toNat)]) (st' := [vR b, vI (M_6 b ((M 11 (((2 * v4) + 1)).toNat)).toNat), vI (M 11 (((2 * v4) + 1)).toNat), vR b]) (dg dc102 61 rfl) rfl rfl ?_
        refine ex_pu (ls' := [vR 158, j1, vR b, vI v3, vI v4, vI (M 11 ((2 * v4)).toNat), vI (M 11 (((2 * v4) + 1)).toNat)]) (st' := [vI (M 11 ((2 * v4)).toNat), vR b, vI (M_6 b ((M 11 (((2 * v4) + 1)).toNat)).toNat), vI (M 11 (((2 * v4) + 1)).toNat), vR b]) (dg dc102 62 rfl) rfl rfl ?_
        refine ex_iald (dg dc102 63 rfl) (locRow0 hb) rfl hf (fun _ hf => ?_)
        refine ex_pu (ls' := [vR 158, j1, vR b, vI v3, vI v4, vI (M 11 ((2 * v4)).toNat), vI (M 11 (((2 * v4) + 1)).toNat)]) (st' := [vR 158, vI (M_6 b ((M 11 ((2 * v4)).toNat)).toNat), vI (M_6 b ((M 11 (((2 * v4) + 1)).toNat)).toNat), vI (M 11 (((2 * v4) + 1)).toNat), vR b]) (dg dc102 64 rfl) rfl rfl ?_
        refine ex_getF (dg dc102 65 rfl) rfl (LOC.st (Nat.le_of_ble_eq_true rfl) rfl) rfl ?_
        refine ex_getO (dg dc102 66 rfl) rfl (LOC.st (Nat.le_of_ble_eq_true rfl) rfl) rfl ?_
        show EX Z _ 102 _ [vR 158, j1, vR b, vI v3, vI v4, vI (M 11 ((2 * v4)).toNat), vI (M 11 (((2 * v4) + 1)).toNat)] [vR 12, vI (M_6 b ((M 11 ((2 * v4)).toNat)).toNat), vI (M_6 b ((M 11 (((2 * v4) + 1)).toNat)).toNat), vI (M 11 (((2 * v4) + 1)).toNat), vR b] _ _
        refine ex_pu (ls' := [vR 158, j1, vR b, vI v3, vI v4, vI (M 11 ((2 * v4)).toNat), vI (M 11 (((2 * v4) + 1)).toNat)]) (st' := [vI v4, vR 12, vI (M_6 b ((M 11 ((2 * v4)).toNat)).toNat), vI (M_6 b ((M 11 (((2 * v4) + 1)).toNat)).toNat), vI (M 11 (((2 * v4) + 1)).toNat), vR b]) (dg dc102 67 rfl) rfl rfl ?_
        refine ex_iald (dg dc102 68 rfl) (LOC.st (Nat.le_of_ble_eq_true rfl) rfl) rfl hf (fun _ hf => ?_)
        refine ex_pu (ls' := [vR 158, j1, vR b, vI v3, vI v4, vI (M 11 ((2 * v4)).toNat), vI (M 11 (((2 * v4) + 1)).toNat)]) (st' := [vI ((M_6 b ((M 11 ((2 * v4)).toNat)).toNat) + (M_6 12 (v4).toNat)), vI (M_6 b ((M 11 (((2 * v4) + 1)).toNat)).toNat), vI (M 11 (((2 * v4) + 1)).toNat), vR b]) (dg dc102 69 rfl) rfl rfl ?_
        refine ex_min (dg dc102 70 rfl) rfl rfl ?_
        refine ex_iast (dg dc102 71 rfl) (locRow0 hb) rfl (ne17_Row hb) hf (fun _ hf => ?_)
        refine ex_gen hf (fun M_8 hM_9 hf => ?_)
        refine ex_pu (ls' := [vR 158, j1, vR b, vI v3, vI (v4 + 1), vI (M 11 ((2 * v4)).toNat), vI (M 11 (((2 * v4) + 1)).toNat)]) (st' := []) (dg dc102 72 rfl) rfl rfl ?_
        refine ex_goto (t := 21) (dg dc102 73 rfl) rfl rfl ?_
        exact ih (v4 + 1) M_8 _ _ _ hf
def ways_measure_L12 (b : Nat) (K1 : MM → OR) : Nat → Int → MM → OR
  | 0, _, _ => none
  | n + 1, v3, M => (bif cmpB .ge v3 10 then (K1  M) else (ways_measure_L21 b v3 (fun M_10 => (ways_measure_L12 b K1 n (v3 + 1) M_10)) FU 0 M))
set_option maxRecDepth 4000 in
theorem ways_measure_L12_ok {Z : Nat × (Nat → Int)} {d : Nat} (hd : 1 ≤ d) {b : Nat} (hb : isRow b) {K1 : MM → OR} {res : AR × MM} (k1 : ∀ (M : MM) (j0 j1 j2 j3 j4 j5 j6 : AV), K1  M = some res → EX Z d 102 134 [j0, j1, j2, j3, j4, j5, j6] [] M res) : ∀ (n : Nat) (v3 : Int) (M : MM) (j1 j4 j5 j6 : AV), ways_measure_L12 b K1 n v3 M = some res → EX Z d 102 12 [vR 158, j1, vR b, vI v3, j4, j5, j6] [] M res := by
  obtain ⟨e9, rfl⟩ : ∃ e9, d = e9 + 1 := ⟨d - 1, by omega⟩
  intro n
  induction n with
  | zero =>
    intro v3 M j1 j4 j5 j6 hf
    unfold ways_measure_L12 at hf
    cases hf
  | succ n ih =>
    intro v3 M j1 j4 j5 j6 hf
    unfold ways_measure_L12 at hf
    refine ex_pu (ls' := [vR 158, j1, vR b, vI v3, j4, j5, j6]) (st' := [vI v3]) (dg dc102 9 rfl) rfl rfl ?_
    refine ex_pu (ls' := [vR 158, j1, vR b, vI v3, j4, j5, j6]) (st' := [vI 10, vI v3]) (dg dc102 10 rfl) rfl rfl ?_
    refine ex_icmp (t := 134) (dg dc102 11 rfl) rfl hf (fun _ hf => ?_) (fun _ hf => ?_)
    · exact k1  M _ _ _ _ _ _ _ hf
    · refine ex_pu (ls' := [vR 158, j1, vR b, vI v3, j4, j5, j6]) (st' := [vI 0]) (dg dc102 12 rfl) rfl rfl ?_
      refine ex_pu (ls' := [vR 158, j1, vR b, vI v3, vI 0, j5, j6]) (st' := []) (dg dc102 13 rfl) rfl rfl ?_
      refine ways_measure_L21_ok hd hb ?_ FU 0 M _ _ _ hf
      · intro M_10 j1_11 j4_12 j5_13 j6_14 hf
        refine ex_pu (ls' := [vR 158, j1_11, vR b, vI (v3 + 1), j4_12, j5_13, j6_14]) (st' := []) (dg dc102 74 rfl) rfl rfl ?_
        refine ex_goto (t := 12) (dg dc102 75 rfl) rfl rfl ?_
        exact ih (v3 + 1) M_10 _ _ _ _ hf
def ways_measure (v1 : Int) (b : Nat) (M : MM) : OR :=
  (bV (jdk_fill b 10 1000000 M) fun M_2 => (bif inB v1 10 then (sM (mU M_2 b (v1).toNat 0) fun M_4 => (ways_measure_L12 b (fun M_15 => some (rV, M_15)) FU 0 M_4)) else none))
set_option maxRecDepth 4000 in
theorem ways_measure_ok {Z : Nat × (Nat → Int)} {d : Nat} (hd : 1 ≤ d) {M : MM} {b : Nat} (hb : isRow b) {v1 : Int} {res : AR × MM} (hf : ways_measure v1 b M = some res) : EX Z d 102 0 (ent 102 [vR 158, vI v1, vR b]) [] M res := by
  obtain ⟨e9, rfl⟩ : ∃ e9, d = e9 + 1 := ⟨d - 1, by omega⟩
  unfold ways_measure at hf
  show EX Z _ 102 0 [vR 158, vI v1, vR b, vU, vU, vU, vU] [] M res
  refine ex_pu (ls' := [vR 158, vI v1, vR b, vU, vU, vU, vU]) (st' := [vR b]) (dg dc102 0 rfl) rfl rfl ?_
  refine ex_ldcI (dg dc102 1 rfl) rfl ?_
  refine ex_cV (vs := [vR b, vI 1000000]) (st' := []) (F := (jdk_fill b 10 1000000 M)) (Or.inl ⟨rfl, (dg dc102 2 rfl)⟩) rfl rfl (Or.inl rfl) rfl (fun _ r9 => jdk_fill_ok (Z := Z) (d := e9) (locRow0 hb) (Row_ne hb) rfl r9) hf (fun M_2 he_1 hf => ?_)
  refine ex_pu (ls' := [vR 158, vI v1, vR b, vU, vU, vU, vU]) (st' := [vR b]) (dg dc102 3 rfl) rfl rfl ?_
  refine ex_pu (ls' := [vR 158, vI v1, vR b, vU, vU, vU, vU]) (st' := [vI v1, vR b]) (dg dc102 4 rfl) rfl rfl ?_
  refine ex_pu (ls' := [vR 158, vI v1, vR b, vU, vU, vU, vU]) (st' := [vI 0, vI v1, vR b]) (dg dc102 5 rfl) rfl rfl ?_
  refine ex_iast (dg dc102 6 rfl) (locRow0 hb) rfl (ne17_Row hb) hf (fun _ hf => ?_)
  refine ex_gen hf (fun M_4 hM_5 hf => ?_)
  refine ex_pu (ls' := [vR 158, vI v1, vR b, vU, vU, vU, vU]) (st' := [vI 0]) (dg dc102 7 rfl) rfl rfl ?_
  refine ex_pu (ls' := [vR 158, vI v1, vR b, vI 0, vU, vU, vU]) (st' := []) (dg dc102 8 rfl) rfl rfl ?_
  refine ways_measure_L12_ok hd hb ?_ FU 0 M_4 _ _ _ _ hf
  · intro M_15 j0_16 j1_17 j2_18 j3_19 j4_20 j5_21 j6_22 hf
    exact ex_vre (dg dc102 76 rfl) rfl hf
-- GlassHill$Ways.fewestHours
def il103 : List (Nat × Instr × Nat) := [(0, .aload_n 0, 1), (1, .iload_n 1, 1), (2, .aload_n 0, 1), (3, .getfield 9, 3), (6, .invokevirtual 47, 3), (9, .aload_n 0, 1), (10, .getfield 9, 3), (13, .iload_n 2, 1), (14, .iaload, 1), (15, .ldc 22, 2), (17, .if_icmp .ge 12, 3), (20, .aload_n 0, 1), (21, .getfield 9, 3), (24, .iload_n 2, 1), (25, .iaload, 1), (26, .goto 4, 3), (29, .iconst (-1), 1), (30, .ireturn, 1)]
theorem dc103 : dcs (mC 103) il103 := dc_of (by decide +kernel)
def ways_fewestHours (v1 : Int) (v2 : Int) (M : MM) : OR :=
  (bV (ways_measure v1 159 M) fun M_2 => (bif inB v2 10 then (bif cmpB .ge (M_2 159 (v2).toNat) 1000000 then some (rI (-1), M_2) else (bif inB v2 10 then some (rI (M_2 159 (v2).toNat), M_2) else none)) else none))
set_option maxRecDepth 4000 in
theorem ways_fewestHours_ok {Z : Nat × (Nat → Int)} {d : Nat} (hd : 2 ≤ d) {M : MM}  {v1 v2 : Int} {res : AR × MM} (hf : ways_fewestHours v1 v2 M = some res) : EX Z d 103 0 (ent 103 [vR 158, vI v1, vI v2]) [] M res := by
  obtain ⟨e9, rfl⟩ : ∃ e9, d = e9 + 1 := ⟨d - 1, by omega⟩
  unfold ways_fewestHours at hf
  show EX Z _ 103 0 [vR 158, vI v1, vI v2] [] M res
  refine ex_pu (ls' := [vR 158, vI v1, vI v2]) (st' := [vR 158]) (dg dc103 0 rfl) rfl rfl ?_
  refine ex_pu (ls' := [vR 158, vI v1, vI v2]) (st' := [vI v1, vR 158]) (dg dc103 1 rfl) rfl rfl ?_
  refine ex_pu (ls' := [vR 158, vI v1, vI v2]) (st' := [vR 158, vI v1, vR 158]) (dg dc103 2 rfl) rfl rfl ?_
  refine ex_getO (dg dc103 3 rfl) rfl (LOC.st (Nat.le_of_ble_eq_true rfl) rfl) rfl ?_
  show EX Z _ 103 _ [vR 158, vI v1, vI v2] [vR 159, vI v1, vR 158] _ _
  refine ex_cV (vs := [vR 158, vI v1, vR 159]) (st' := []) (F := (ways_measure v1 159 M)) (Or.inr (Or.inl ⟨rfl, (dg dc103 4 rfl)⟩)) rfl rfl (rk1 (LOC.st (Nat.le_of_ble_eq_true rfl) rfl) rfl) rfl (fun _ r9 => ways_measure_ok (Z := Z) (d := e9) (by omega) isRow159  r9) hf (fun M_2 he_1 hf => ?_)
  refine ex_pu (ls' := [vR 158, vI v1, vI v2]) (st' := [vR 158]) (dg dc103 5 rfl) rfl rfl ?_
  refine ex_getO (dg dc103 6 rfl) rfl (LOC.st (Nat.le_of_ble_eq_true rfl) rfl) rfl ?_
  show EX Z _ 103 _ [vR 158, vI v1, vI v2] [vR 159] _ _
  refine ex_pu (ls' := [vR 158, vI v1, vI v2]) (st' := [vI v2, vR 159]) (dg dc103 7 rfl) rfl rfl ?_
  refine ex_iald (dg dc103 8 rfl) (LOC.st (Nat.le_of_ble_eq_true rfl) rfl) rfl hf (fun _ hf => ?_)
  refine ex_ldcI (dg dc103 9 rfl) rfl ?_
  refine ex_icmp (t := 29) (dg dc103 10 rfl) rfl hf (fun _ hf => ?_) (fun _ hf => ?_)
  · refine ex_pu (ls' := [vR 158, vI v1, vI v2]) (st' := [vI (-1)]) (dg dc103 16 rfl) rfl rfl ?_
    exact ex_ire (dg dc103 17 rfl) rfl hf
  · refine ex_pu (ls' := [vR 158, vI v1, vI v2]) (st' := [vR 158]) (dg dc103 11 rfl) rfl rfl ?_
    refine ex_getO (dg dc103 12 rfl) rfl (LOC.st (Nat.le_of_ble_eq_true rfl) rfl) rfl ?_
    show EX Z _ 103 _ [vR 158, vI v1, vI v2] [vR 159] _ _
    refine ex_pu (ls' := [vR 158, vI v1, vI v2]) (st' := [vI v2, vR 159]) (dg dc103 13 rfl) rfl rfl ?_
    refine ex_iald (dg dc103 14 rfl) (LOC.st (Nat.le_of_ble_eq_true rfl) rfl) rfl hf (fun _ hf => ?_)
    refine ex_goto (t := 30) (dg dc103 15 rfl) rfl rfl ?_
    exact ex_ire (dg dc103 17 rfl) rfl hf
-- GlassHill$Ways.hoursToBothEnds
def il105 : List (Nat × Instr × Nat) := [(0, .aload_n 0, 1), (1, .getfield 9, 3), (4, .iload_n 1, 1), (5, .iaload, 1), (6, .aload_n 0, 1), (7, .getfield 15, 3), (10, .iload_n 1, 1), (11, .iaload, 1), (12, .invokestatic 58, 3), (15, .ireturn, 1)]
theorem dc105 : dcs (mC 105) il105 := dc_of (by decide +kernel)
def ways_hoursToBothEnds (v1 : Int) (M : MM) : OR :=
  (bif inB v1 10 then (bif inB v1 10 then some (rI (imax (M 159 (v1).toNat) (M 160 (v1).toNat)), M) else none) else none)
set_option maxRecDepth 4000 in
theorem ways_hoursToBothEnds_ok {Z : Nat × (Nat → Int)} {d : Nat} (hd : 0 ≤ d) {M : MM}  {v1 : Int} {res : AR × MM} (hf : ways_hoursToBothEnds v1 M = some res) : EX Z d 105 0 (ent 105 [vR 158, vI v1]) [] M res := by
  unfold ways_hoursToBothEnds at hf
  show EX Z _ 105 0 [vR 158, vI v1] [] M res
  refine ex_pu (ls' := [vR 158, vI v1]) (st' := [vR 158]) (dg dc105 0 rfl) rfl rfl ?_
  refine ex_getO (dg dc105 1 rfl) rfl (LOC.st (Nat.le_of_ble_eq_true rfl) rfl) rfl ?_
  show EX Z _ 105 _ [vR 158, vI v1] [vR 159] _ _
  refine ex_pu (ls' := [vR 158, vI v1]) (st' := [vI v1, vR 159]) (dg dc105 2 rfl) rfl rfl ?_
  refine ex_iald (dg dc105 3 rfl) (LOC.st (Nat.le_of_ble_eq_true rfl) rfl) rfl hf (fun _ hf => ?_)
  refine ex_pu (ls' := [vR 158, vI v1]) (st' := [vR 158, vI (M 159 (v1).toNat)]) (dg dc105 4 rfl) rfl rfl ?_
  refine ex_getO (dg dc105 5 rfl) rfl (LOC.st (Nat.le_of_ble_eq_true rfl) rfl) rfl ?_
  show EX Z _ 105 _ [vR 158, vI v1] [vR 160, vI (M 159 (v1).toNat)] _ _
  refine ex_pu (ls' := [vR 158, vI v1]) (st' := [vI v1, vR 160, vI (M 159 (v1).toNat)]) (dg dc105 6 rfl) rfl rfl ?_
  refine ex_iald (dg dc105 7 rfl) (LOC.st (Nat.le_of_ble_eq_true rfl) rfl) rfl hf (fun _ hf => ?_)
  refine ex_max (dg dc105 8 rfl) rfl rfl ?_
  exact ex_ire (dg dc105 9 rfl) rfl hf
-- GlassHill$Ways.greatestChance
def il106 : List (Nat × Instr × Nat) := [(0, .aload_n 0, 1), (1, .getfield 9, 3), (4, .iconst 0, 1), (5, .invokestatic 23, 3), (8, .aload_n 0, 1), (9, .getfield 9, 3), (12, .iload_n 1, 1), (13, .ldc 22, 2), (15, .iastore, 1), (16, .iconst 0, 1), (17, .istore_n 3, 1), (18, .iload_n 3, 1), (19, .bipush 10, 2), (21, .if_icmp .ge 143, 3), (24, .iconst 0, 1), (25, .istore 4, 2), (27, .iload 4, 2), (29, .aload_n 0, 1), (30, .getfield 18, 3), (33, .getfield 29, 3), (36, .if_icmp .ge 122, 3), (39, .iload 4, 2), (41, .bipush 16, 2), (43, .if_icmp .ge 115, 3), (46, .aload_n 0, 1), (47, .getfield 18, 3), (50, .getfield 35, 3), (53, .iconst 2, 1), (54, .iload 4, 2), (56, .imul, 1), (57, .iaload, 1), (58, .istore 5, 2), (60, .aload_n 0, 1), (61, .getfield 18, 3), (64, .getfield 35, 3), (67, .iconst 2, 1), (68, .iload 4, 2), (70, .imul, 1), (71, .iconst 1, 1), (72, .iadd, 1), (73, .iaload, 1), (74, .istore 6, 2), (76, .aload_n 0, 1), (77, .getfield 9, 3), (80, .iload 5, 2), (82, .aload_n 0, 1), (83, .getfield 9, 3), (86, .iload 5, 2), (88, .iaload, 1), (89, .aload_n 0, 1), (90, .getfield 9, 3), (93, .iload 6, 2), (95, .iaload, 1), (96, .aload_n 0, 1), (97, .getfield 18, 3), (100, .getfield 61, 3), (103, .iload 4, 2), (105, .iaload, 1), (106, .imul, 1), (107, .bipush 100, 2), (109, .idiv, 1), (110, .invokestatic 58, 3), (113, .iastore, 1), (114, .aload_n 0, 1), (115, .getfield 9, 3), (118, .iload 6, 2), (120, .aload_n 0, 1), (121, .getfield 9, 3), (124, .iload 6, 2), (126, .iaload, 1), (127, .aload_n 0, 1), (128, .getfield 9, 3), (131, .iload 5, 2), (133, .iaload, 1), (134, .aload_n 0, 1), (135, .getfield 18, 3), (138, .getfield 61, 3), (141, .iload 4, 2), (143, .iaload, 1), (144, .imul, 1), (145, .bipush 100, 2), (147, .idiv, 1), (148, .invokestatic 58, 3), (151, .iastore, 1), (152, .iinc 4 1, 3), (155, .goto (-128), 3), (158, .iinc 3 1, 3), (161, .goto (-143), 3), (164, .aload_n 0, 1), (165, .getfield 9, 3), (168, .iload_n 2, 1), (169, .iaload, 1), (170, .ireturn, 1)]
theorem dc106 : dcs (mC 106) il106 := dc_of (by decide +kernel)
def ways_greatestChance_L27  (v2 v3 : Int) (K1 : MM → OR) : Nat → Int → MM → OR
  | 0, _, _ => none
  | n + 1, v4, M => (bif cmpB .ge v4 (M 3 2) then (K1  M) else (bif cmpB .ge v4 16 then (K1  M) else (bif inB (2 * v4) 32 then (bif inB ((2 * v4) + 1) 32 then (bif inB (M 11 ((2 * v4)).toNat) 10 then (bif inB (M 11 (((2 * v4) + 1)).toNat) 10 then (bif inB v4 16 then (bif inB (M 11 ((2 * v4)).toNat) 10 then (sM (mU M 159 ((M 11 ((2 * v4)).toNat)).toNat (imax (M 159 ((M 11 ((2 * v4)).toNat)).toNat) ((w32 ((M 159 ((M 11 (((2 * v4) + 1)).toNat)).toNat) * (M 13 (v4).toNat))).tdiv (w32 100)))) fun M_6 => (bif inB (M 11 (((2 * v4) + 1)).toNat) 10 then (bif inB (M 11 ((2 * v4)).toNat) 10 then (bif inB v4 16 then (bif inB (M 11 (((2 * v4) + 1)).toNat) 10 then (sM (mU M_6 159 ((M 11 (((2 * v4) + 1)).toNat)).toNat (imax (M_6 159 ((M 11 (((2 * v4) + 1)).toNat)).toNat) ((w32 ((M_6 159 ((M 11 ((2 * v4)).toNat)).toNat) * (M_6 13 (v4).toNat))).tdiv (w32 100)))) fun M_8 => (ways_greatestChance_L27 v2 v3 K1 n (v4 + 1) M_8)) else none) else none) else none) else none)) else none) else none) else none) else none) else none) else none)))
set_option maxRecDepth 4000 in
theorem ways_greatestChance_L27_ok {Z : Nat × (Nat → Int)} {d : Nat} (hd : 1 ≤ d)  {v2 v3 : Int} {K1 : MM → OR} {res : AR × MM} (k1 : ∀ (M : MM) (j1 j4 j5 j6 : AV), K1  M = some res → EX Z d 106 158 [vR 158, j1, vI v2, vI v3, j4, j5, j6] [] M res) : ∀ (n : Nat) (v4 : Int) (M : MM) (j1 j5 j6 : AV), ways_greatestChance_L27 v2 v3 K1 n v4 M = some res → EX Z d 106 27 [vR 158, j1, vI v2, vI v3, vI v4, j5, j6] [] M res := by
  obtain ⟨e9, rfl⟩ : ∃ e9, d = e9 + 1 := ⟨d - 1, by omega⟩
  intro n
  induction n with
  | zero =>
    intro v4 M j1 j5 j6 hf
    unfold ways_greatestChance_L27 at hf
    cases hf
  | succ n ih =>
    intro v4 M j1 j5 j6 hf
    unfold ways_greatestChance_L27 at hf
    refine ex_pu (ls' := [vR 158, j1, vI v2, vI v3, vI v4, j5, j6]) (st' := [vI v4]) (dg dc106 16 rfl) rfl rfl ?_
    refine ex_pu (ls' := [vR 158, j1, vI v2, vI v3, vI v4, j5, j6]) (st' := [vR 158, vI v4]) (dg dc106 17 rfl) rfl rfl ?_
    refine ex_getF (dg dc106 18 rfl) rfl (LOC.st (Nat.le_of_ble_eq_true rfl) rfl) rfl ?_
    refine ex_getI (dg dc106 19 rfl) rfl (LOC.st (Nat.le_of_ble_eq_true rfl) rfl) rfl ?_
    refine ex_icmp (t := 158) (dg dc106 20 rfl) rfl hf (fun _ hf => ?_) (fun _ hf => ?_)
    · exact k1  M _ _ _ _ hf
    · refine ex_pu (ls' := [vR 158, j1, vI v2, vI v3, vI v4, j5, j6]) (st' := [vI v4]) (dg dc106 21 rfl) rfl rfl ?_
      refine ex_pu (ls' := [vR 158, j1, vI v2, vI v3, vI v4, j5, j6]) (st' := [vI 16, vI v4]) (dg dc106 22 rfl) rfl rfl ?_
      refine ex_icmp (t := 158) (dg dc106 23 rfl) rfl hf (fun _ hf => ?_) (fun _ hf => ?_)
      · exact k1  M _ _ _ _ hf
      · refine ex_pu (ls' := [vR 158, j1, vI v2, vI v3, vI v4, j5, j6]) (st' := [vR 158]) (dg dc106 24 rfl) rfl rfl ?_
        refine ex_getF (dg dc106 25 rfl) rfl (LOC.st (Nat.le_of_ble_eq_true rfl) rfl) rfl ?_
        refine ex_getO (dg dc106 26 rfl) rfl (LOC.st (Nat.le_of_ble_eq_true rfl) rfl) rfl ?_
        show EX Z _ 106 _ [vR 158, j1, vI v2, vI v3, vI v4, j5, j6] [vR 11] _ _
        refine ex_pu (ls' := [vR 158, j1, vI v2, vI v3, vI v4, j5, j6]) (st' := [vI 2, vR 11]) (dg dc106 27 rfl) rfl rfl ?_
        refine ex_pu (ls' := [vR 158, j1, vI v2, vI v3, vI v4, j5, j6]) (st' := [vI v4, vI 2, vR 11]) (dg dc106 28 rfl) rfl rfl ?_
        refine ex_pu (ls' := [vR 158, j1, vI v2, vI v3, vI v4, j5, j6]) (st' := [vI (2 * v4), vR 11]) (dg dc106 29 rfl) rfl rfl ?_
        refine ex_iald (dg dc106 30 rfl) (LOC.st (Nat.le_of_ble_eq_true rfl) rfl) rfl hf (fun _ hf => ?_)
        refine ex_pu (ls' := [vR 158, j1, vI v2, vI v3, vI v4, vI (M 11 ((2 * v4)).toNat), j6]) (st' := []) (dg dc106 31 rfl) rfl rfl ?_
        refine ex_pu (ls' := [vR 158, j1, vI v2, vI v3, vI v4, vI (M 11 ((2 * v4)).toNat), j6]) (st' := [vR 158]) (dg dc106 32 rfl) rfl rfl ?_
        refine ex_getF (dg dc106 33 rfl) rfl (LOC.st (Nat.le_of_ble_eq_true rfl) rfl) rfl ?_
        refine ex_getO (dg dc106 34 rfl) rfl (LOC.st (Nat.le_of_ble_eq_true rfl) rfl) rfl ?_
        show EX Z _ 106 _ [vR 158, j1, vI v2, vI v3, vI v4, vI (M 11 ((2 * v4)).toNat), j6] [vR 11] _ _
        refine ex_pu (ls' := [vR 158, j1, vI v2, vI v3, vI v4, vI (M 11 ((2 * v4)).toNat), j6]) (st' := [vI 2, vR 11]) (dg dc106 35 rfl) rfl rfl ?_
        refine ex_pu (ls' := [vR 158, j1, vI v2, vI v3, vI v4, vI (M 11 ((2 * v4)).toNat), j6]) (st' := [vI v4, vI 2, vR 11]) (dg dc106 36 rfl) rfl rfl ?_
        refine ex_pu (ls' := [vR 158, j1, vI v2, vI v3, vI v4, vI (M 11 ((2 * v4)).toNat), j6]) (st' := [vI (2 * v4), vR 11]) (dg dc106 37 rfl) rfl rfl ?_
        refine ex_pu (ls' := [vR 158, j1, vI v2, vI v3, vI v4, vI (M 11 ((2 * v4)).toNat), j6]) (st' := [vI 1, vI (2 * v4), vR 11]) (dg dc106 38 rfl) rfl rfl ?_
        refine ex_pu (ls' := [vR 158, j1, vI v2, vI v3, vI v4, vI (M 11 ((2 * v4)).toNat), j6]) (st' := [vI ((2 * v4) + 1), vR 11]) (dg dc106 39 rfl) rfl rfl ?_
        refine ex_iald (dg dc106 40 rfl) (LOC.st (Nat.le_of_ble_eq_true rfl) rfl) rfl hf (fun _ hf => ?_)
        refine ex_pu (ls' := [vR 158, j1, vI v2, vI v3, vI v4, vI (M 11 ((2 * v4)).toNat), vI (M 11 (((2 * v4) + 1)).toNat)]) (st' := []) (dg dc106 41 rfl) rfl rfl ?_
        refine ex_pu (ls' := [vR 158, j1, vI v2, vI v3, vI v4, vI (M 11 ((2 * v4)).toNat), vI (M 11 (((2 * v4) + 1)).toNat)]) (st' := [vR 158]) (dg dc106 42 rfl) rfl rfl ?_
        refine ex_getO (dg dc106 43 rfl) rfl (LOC.st (Nat.le_of_ble_eq_true rfl) rfl) rfl ?_
        show EX Z _ 106 _ [vR 158, j1, vI v2, vI v3, vI v4, vI (M 11 ((2 * v4)).toNat), vI (M 11 (((2 * v4) + 1)).toNat)] [vR 159] _ _
        refine ex_pu (ls' := [vR 158, j1, vI v2, vI v3, vI v4, vI (M 11 ((2 * v4)).toNat), vI (M 11 (((2 * v4) + 1)).toNat)]) (st' := [vI (M 11 ((2 * v4)).toNat), vR 159]) (dg dc106 44 rfl) rfl rfl ?_
        refine ex_pu (ls' := [vR 158, j1, vI v2, vI v3, vI v4, vI (M 11 ((2 * v4)).toNat), vI (M 11 (((2 * v4) + 1)).toNat)]) (st' := [vR 158, vI (M 11 ((2 * v4)).toNat), vR 159]) (dg dc106 45 rfl) rfl rfl ?_
        refine ex_getO (dg dc106 46 rfl) rfl (LOC.st (Nat.le_of_ble_eq_true rfl) rfl) rfl ?_
        show EX Z _ 106 _ [vR 158, j1, vI v2, vI v3, vI v4, vI (M 11 ((2 * v4)).toNat), vI (M 11 (((2 * v4) + 1)).toNat)] [vR 159, vI (M 11 ((2 * v4)).toNat), vR 159] _ _
        refine ex_pu (ls' := [vR 158, j1, vI v2, vI v3, vI v4, vI (M 11 ((2 * v4)).toNat), vI (M 11 (((2 * v4) + 1)).toNat)]) (st' := [vI (M 11 ((2 * v4)).toNat), vR 159, vI (M 11 ((2 * v4)).toNat), vR 159]) (dg dc106 47 rfl) rfl rfl ?_
        refine ex_iald (dg dc106 48 rfl) (LOC.st (Nat.le_of_ble_eq_true rfl) rfl) rfl hf (fun _ hf => ?_)
        refine ex_pu (ls' := [vR 158, j1, vI v2, vI v3, vI v4, vI (M 11 ((2 * v4)).toNat), vI (M 11 (((2 * v4) + 1)).toNat)]) (st' := [vR 158, vI (M 159 ((M 11 ((2 * v4)).toNat)).toNat), vI (M 11 ((2 * v4)).toNat), vR 159]) (dg dc106 49 rfl) rfl rfl ?_
        refine ex_getO (dg dc106 50 rfl) rfl (LOC.st (Nat.le_of_ble_eq_true rfl) rfl) rfl ?_
        show EX Z _ 106 _ [vR 158, j1, vI v2, vI v3, vI v4, vI (M 11 ((2 * v4)).toNat), vI (M 11 (((2 * v4) + 1)).toNat)] [vR 159, vI (M 159 ((M 11 ((2 * v4)).toNat)).toNat), vI (M 11 ((2 * v4)).toNat), vR 159] _ _
        refine ex_pu (ls' := [vR 158, j1, vI v2, vI v3, vI v4, vI (M 11 ((2 * v4)).toNat), vI (M 11 (((2 * v4) + 1)).toNat)]) (st' := [vI (M 11 (((2 * v4) + 1)).toNat), vR 159, vI (M 159 ((M 11 ((2 * v4)).toNat)).toNat), vI (M 11 ((2 * v4)).toNat), vR 159]) (dg dc106 51 rfl) rfl rfl ?_
        refine ex_iald (dg dc106 52 rfl) (LOC.st (Nat.le_of_ble_eq_true rfl) rfl) rfl hf (fun _ hf => ?_)
        refine ex_pu (ls' := [vR 158, j1, vI v2, vI v3, vI v4, vI (M 11 ((2 * v4)).toNat), vI (M 11 (((2 * v4) + 1)).toNat)]) (st' := [vR 158, vI (M 159 ((M 11 (((2 * v4) + 1)).toNat)).toNat), vI (M 159 ((M 11 ((2 * v4)).toNat)).toNat), vI (M 11 ((2 * v4)).toNat), vR 159]) (dg dc106 53 rfl) rfl rfl ?_
        refine ex_getF (dg dc106 54 rfl) rfl (LOC.st (Nat.le_of_ble_eq_true rfl) rfl) rfl ?_
        refine ex_getO (dg dc106 55 rfl) rfl (LOC.st (Nat.le_of_ble_eq_true rfl) rfl) rfl ?_
        show EX Z _ 106 _ [vR 158, j1, vI v2, vI v3, vI v4, vI (M 11 ((2 * v4)).toNat), vI (M 11 (((2 * v4) + 1)).toNat)] [vR 13, vI (M 159 ((M 11 (((2 * v4) + 1)).toNat)).toNat), vI (M 159 ((M 11 ((2 * v4)).toNat)).toNat), vI (M 11 ((2 * v4)).toNat), vR 159] _ _
        refine ex_pu (ls' := [vR 158, j1, vI v2, vI v3, vI v4, vI (M 11 ((2 * v4)).toNat), vI (M 11 (((2 * v4) + 1)).toNat)]) (st' := [vI v4, vR 13, vI (M 159 ((M 11 (((2 * v4) + 1)).toNat)).toNat), vI (M 159 ((M 11 ((2 * v4)).toNat)).toNat), vI (M 11 ((2 * v4)).toNat), vR 159]) (dg dc106 56 rfl) rfl rfl ?_
        refine ex_iald (dg dc106 57 rfl) (LOC.st (Nat.le_of_ble_eq_true rfl) rfl) rfl hf (fun _ hf => ?_)
        refine ex_pu (ls' := [vR 158, j1, vI v2, vI v3, vI v4, vI (M 11 ((2 * v4)).toNat), vI (M 11 (((2 * v4) + 1)).toNat)]) (st' := [vI ((M 159 ((M 11 (((2 * v4) + 1)).toNat)).toNat) * (M 13 (v4).toNat)), vI (M 159 ((M 11 ((2 * v4)).toNat)).toNat), vI (M 11 ((2 * v4)).toNat), vR 159]) (dg dc106 58 rfl) rfl rfl ?_
        refine ex_pu (ls' := [vR 158, j1, vI v2, vI v3, vI v4, vI (M 11 ((2 * v4)).toNat), vI (M 11 (((2 * v4) + 1)).toNat)]) (st' := [vI 100, vI ((M 159 ((M 11 (((2 * v4) + 1)).toNat)).toNat) * (M 13 (v4).toNat)), vI (M 159 ((M 11 ((2 * v4)).toNat)).toNat), vI (M 11 ((2 * v4)).toNat), vR 159]) (dg dc106 59 rfl) rfl rfl ?_
        refine ex_idiv (dg dc106 60 rfl) (by decide +kernel) ?_
        refine ex_max (dg dc106 61 rfl) rfl rfl ?_
        refine ex_iast (dg dc106 62 rfl) (LOC.st (Nat.le_of_ble_eq_true rfl) rfl) rfl rfl hf (fun _ hf => ?_)
        refine ex_gen hf (fun M_6 hM_7 hf => ?_)
        refine ex_pu (ls' := [vR 158, j1, vI v2, vI v3, vI v4, vI (M 11 ((2 * v4)).toNat), vI (M 11 (((2 * v4) + 1)).toNat)]) (st' := [vR 158]) (dg dc106 63 rfl) rfl rfl ?_
        refine ex_getO (dg dc106 64 rfl) rfl (LOC.st (Nat.le_of_ble_eq_true rfl) rfl) rfl ?_
        show EX Z _ 106 _ [vR 158, j1, vI v2, vI v3, vI v4, vI (M 11 ((2 * v4)).toNat), vI (M 11 (((2 * v4) + 1)).toNat)] [vR 159] _ _
        refine ex_pu (ls' := [vR 158, j1, vI v2, vI v3, vI v4, vI (M 11 ((2 * v4)).toNat), vI (M 11 (((2 * v4) + 1)).toNat)]) (st' := [vI (M 11 (((2 * v4) + 1)).toNat), vR 159]) (dg dc106 65 rfl) rfl rfl ?_
        refine ex_pu (ls' := [vR 158, j1, vI v2, vI v3, vI v4, vI (M 11 ((2 * v4)).toNat), vI (M 11 (((2 * v4) + 1)).toNat)]) (st' := [vR 158, vI (M 11 (((2 * v4) + 1)).toNat), vR 159]) (dg dc106 66 rfl) rfl rfl ?_
        refine ex_getO (dg dc106 67 rfl) rfl (LOC.st (Nat.le_of_ble_eq_true rfl) rfl) rfl ?_
        show EX Z _ 106 _ [vR 158, j1, vI v2, vI v3, vI v4, vI (M 11 ((2 * v4)).toNat), vI (M 11 (((2 * v4) + 1)).toNat)] [vR 159, vI (M 11 (((2 * v4) + 1)).toNat), vR 159] _ _
        refine ex_pu (ls' := [vR 158, j1, vI v2, vI v3, vI v4, vI (M 11 ((2 * v4)).toNat), vI (M 11 (((2 * v4) + 1)).toNat)]) (st' := [vI (M 11 (((2 * v4) + 1)).toNat), vR 159, vI (M 11 (((2 * v4) + 1)).toNat), vR 159]) (dg dc106 68 rfl) rfl rfl ?_
        refine ex_iald (dg dc106 69 rfl) (LOC.st (Nat.le_of_ble_eq_true rfl) rfl) rfl hf (fun _ hf => ?_)
        refine ex_pu (ls' := [vR 158, j1, vI v2, vI v3, vI v4, vI (M 11 ((2 * v4)).toNat), vI (M 11 (((2 * v4) + 1)).toNat)]) (st' := [vR 158, vI (M_6 159 ((M 11 (((2 * v4) + 1)).toNat)).toNat), vI (M 11 (((2 * v4) + 1)).toNat), vR 159]) (dg dc106 70 rfl) rfl rfl ?_
        refine ex_getO (dg dc106 71 rfl) rfl (LOC.st (Nat.le_of_ble_eq_true rfl) rfl) rfl ?_
        show EX Z _ 106 _ [vR 158, j1, vI v2, vI v3, vI v4, vI (M 11 ((2 * v4)).toNat), vI (M 11 (((2 * v4) + 1)).toNat)] [vR 159, vI (M_6 159 ((M 11 (((2 * v4) + 1)).toNat)).toNat), vI (M 11 (((2 * v4) + 1)).toNat), vR 159] _ _
        refine ex_pu (ls' := [vR 158, j1, vI v2, vI v3, vI v4, vI (M 11 ((2 * v4)).toNat), vI (M 11 (((2 * v4) + 1)).toNat)]) (st' := [vI (M 11 ((2 * v4)).toNat), vR 159, vI (M_6 159 ((M 11 (((2 * v4) + 1)).toNat)).toNat), vI (M 11 (((2 * v4) + 1)).toNat), vR 159]) (dg dc106 72 rfl) rfl rfl ?_
        refine ex_iald (dg dc106 73 rfl) (LOC.st (Nat.le_of_ble_eq_true rfl) rfl) rfl hf (fun _ hf => ?_)
        refine ex_pu (ls' := [vR 158, j1, vI v2, vI v3, vI v4, vI (M 11 ((2 * v4)).toNat), vI (M 11 (((2 * v4) + 1)).toNat)]) (st' := [vR 158, vI (M_6 159 ((M 11 ((2 * v4)).toNat)).toNat), vI (M_6 159 ((M 11 (((2 * v4) + 1)).toNat)).toNat), vI (M 11 (((2 * v4) + 1)).toNat), vR 159]) (dg dc106 74 rfl) rfl rfl ?_
        refine ex_getF (dg dc106 75 rfl) rfl (LOC.st (Nat.le_of_ble_eq_true rfl) rfl) rfl ?_
        refine ex_getO (dg dc106 76 rfl) rfl (LOC.st (Nat.le_of_ble_eq_true rfl) rfl) rfl ?_
        show EX Z _ 106 _ [vR 158, j1, vI v2, vI v3, vI v4, vI (M 11 ((2 * v4)).toNat), vI (M 11 (((2 * v4) + 1)).toNat)] [vR 13, vI (M_6 159 ((M 11 ((2 * v4)).toNat)).toNat), vI (M_6 159 ((M 11 (((2 * v4) + 1)).toNat)).toNat), vI (M 11 (((2 * v4) + 1)).toNat), vR 159] _ _
        refine ex_pu (ls' := [vR 158, j1, vI v2, vI v3, vI v4, vI (M 11 ((2 * v4)).toNat), vI (M 11 (((2 * v4) + 1)).toNat)]) (st' := [vI v4, vR 13, vI (M_6 159 ((M 11 ((2 * v4)).toNat)).toNat), vI (M_6 159 ((M 11 (((2 * v4) + 1)).toNat)).toNat), vI (M 11 (((2 * v4) + 1)).toNat), vR 159]) (dg dc106 77 rfl) rfl rfl ?_
        refine ex_iald (dg dc106 78 rfl) (LOC.st (Nat.le_of_ble_eq_true rfl) rfl) rfl hf (fun _ hf => ?_)
        refine ex_pu (ls' := [vR 158, j1, vI v2, vI v3, vI v4, vI (M 11 ((2 * v4)).toNat), vI (M 11 (((2 * v4) + 1)).toNat)]) (st' := [vI ((M_6 159 ((M 11 ((2 * v4)).toNat)).toNat) * (M_6 13 (v4).toNat)), vI (M_6 159 ((M 11 (((2 * v4) + 1)).toNat)).toNat), vI (M 11 (((2 * v4) + 1)).toNat), vR 159]) (dg dc106 79 rfl) rfl rfl ?_
        refine ex_pu (ls' := [vR 158, j1, vI v2, vI v3, vI v4, vI (M 11 ((2 * v4)).toNat), vI (M 11 (((2 * v4) + 1)).toNat)]) (st' := [vI 100, vI ((M_6 159 ((M 11 ((2 * v4)).toNat)).toNat) * (M_6 13 (v4).toNat)), vI (M_6 159 ((M 11 (((2 * v4) + 1)).toNat)).toNat), vI (M 11 (((2 * v4) + 1)).toNat), vR 159]) (dg dc106 80 rfl) rfl rfl ?_
        refine ex_idiv (dg dc106 81 rfl) (by decide +kernel) ?_
        refine ex_max (dg dc106 82 rfl) rfl rfl ?_
        refine ex_iast (dg dc106 83 rfl) (LOC.st (Nat.le_of_ble_eq_true rfl) rfl) rfl rfl hf (fun _ hf => ?_)
        refine ex_gen hf (fun M_8 hM_9 hf => ?_)
        refine ex_pu (ls' := [vR 158, j1, vI v2, vI v3, vI (v4 + 1), vI (M 11 ((2 * v4)).toNat), vI (M 11 (((2 * v4) + 1)).toNat)]) (st' := []) (dg dc106 84 rfl) rfl rfl ?_
        refine ex_goto (t := 27) (dg dc106 85 rfl) rfl rfl ?_
        exact ih (v4 + 1) M_8 _ _ _ hf
def ways_greatestChance_L18  (v2 : Int) (K1 : MM → OR) : Nat → Int → MM → OR
  | 0, _, _ => none
  | n + 1, v3, M => (bif cmpB .ge v3 10 then (K1  M) else (ways_greatestChance_L27 v2 v3 (fun M_10 => (ways_greatestChance_L18 v2 K1 n (v3 + 1) M_10)) FU 0 M))
set_option maxRecDepth 4000 in
theorem ways_greatestChance_L18_ok {Z : Nat × (Nat → Int)} {d : Nat} (hd : 1 ≤ d)  {v2 : Int} {K1 : MM → OR} {res : AR × MM} (k1 : ∀ (M : MM) (j1 j3 j4 j5 j6 : AV), K1  M = some res → EX Z d 106 164 [vR 158, j1, vI v2, j3, j4, j5, j6] [] M res) : ∀ (n : Nat) (v3 : Int) (M : MM) (j1 j4 j5 j6 : AV), ways_greatestChance_L18 v2 K1 n v3 M = some res → EX Z d 106 18 [vR 158, j1, vI v2, vI v3, j4, j5, j6] [] M res := by
  obtain ⟨e9, rfl⟩ : ∃ e9, d = e9 + 1 := ⟨d - 1, by omega⟩
  intro n
  induction n with
  | zero =>
    intro v3 M j1 j4 j5 j6 hf
    unfold ways_greatestChance_L18 at hf
    cases hf
  | succ n ih =>
    intro v3 M j1 j4 j5 j6 hf
    unfold ways_greatestChance_L18 at hf
    refine ex_pu (ls' := [vR 158, j1, vI v2, vI v3, j4, j5, j6]) (st' := [vI v3]) (dg dc106 11 rfl) rfl rfl ?_
    refine ex_pu (ls' := [vR 158, j1, vI v2, vI v3, j4, j5, j6]) (st' := [vI 10, vI v3]) (dg dc106 12 rfl) rfl rfl ?_
    refine ex_icmp (t := 164) (dg dc106 13 rfl) rfl hf (fun _ hf => ?_) (fun _ hf => ?_)
    · exact k1  M _ _ _ _ _ hf
    · refine ex_pu (ls' := [vR 158, j1, vI v2, vI v3, j4, j5, j6]) (st' := [vI 0]) (dg dc106 14 rfl) rfl rfl ?_
      refine ex_pu (ls' := [vR 158, j1, vI v2, vI v3, vI 0, j5, j6]) (st' := []) (dg dc106 15 rfl) rfl rfl ?_
      refine ways_greatestChance_L27_ok hd  ?_ FU 0 M _ _ _ hf
      · intro M_10 j1_11 j4_12 j5_13 j6_14 hf
        refine ex_pu (ls' := [vR 158, j1_11, vI v2, vI (v3 + 1), j4_12, j5_13, j6_14]) (st' := []) (dg dc106 86 rfl) rfl rfl ?_
        refine ex_goto (t := 18) (dg dc106 87 rfl) rfl rfl ?_
        exact ih (v3 + 1) M_10 _ _ _ _ hf
def ways_greatestChance (v1 : Int) (v2 : Int) (M : MM) : OR :=
  (bV (jdk_fill 159 10 0 M) fun M_2 => (bif inB v1 10 then (sM (mU M_2 159 (v1).toNat 1000000) fun M_4 => (ways_greatestChance_L18 v2 (fun M_15 => (bif inB v2 10 then some (rI (M_15 159 (v2).toNat), M_15) else none)) FU 0 M_4)) else none))
set_option maxRecDepth 4000 in
theorem ways_greatestChance_ok {Z : Nat × (Nat → Int)} {d : Nat} (hd : 1 ≤ d) {M : MM}  {v1 v2 : Int} {res : AR × MM} (hf : ways_greatestChance v1 v2 M = some res) : EX Z d 106 0 (ent 106 [vR 158, vI v1, vI v2]) [] M res := by
  obtain ⟨e9, rfl⟩ : ∃ e9, d = e9 + 1 := ⟨d - 1, by omega⟩
  unfold ways_greatestChance at hf
  show EX Z _ 106 0 [vR 158, vI v1, vI v2, vU, vU, vU, vU] [] M res
  refine ex_pu (ls' := [vR 158, vI v1, vI v2, vU, vU, vU, vU]) (st' := [vR 158]) (dg dc106 0 rfl) rfl rfl ?_
  refine ex_getO (dg dc106 1 rfl) rfl (LOC.st (Nat.le_of_ble_eq_true rfl) rfl) rfl ?_
  show EX Z _ 106 _ [vR 158, vI v1, vI v2, vU, vU, vU, vU] [vR 159] _ _
  refine ex_pu (ls' := [vR 158, vI v1, vI v2, vU, vU, vU, vU]) (st' := [vI 0, vR 159]) (dg dc106 2 rfl) rfl rfl ?_
  refine ex_cV (vs := [vR 159, vI 0]) (st' := []) (F := (jdk_fill 159 10 0 M)) (Or.inl ⟨rfl, (dg dc106 3 rfl)⟩) rfl rfl (Or.inl rfl) rfl (fun _ r9 => jdk_fill_ok (Z := Z) (d := e9) (LOC.st (Nat.le_of_ble_eq_true rfl) rfl) (by decide) rfl r9) hf (fun M_2 he_1 hf => ?_)
  refine ex_pu (ls' := [vR 158, vI v1, vI v2, vU, vU, vU, vU]) (st' := [vR 158]) (dg dc106 4 rfl) rfl rfl ?_
  refine ex_getO (dg dc106 5 rfl) rfl (LOC.st (Nat.le_of_ble_eq_true rfl) rfl) rfl ?_
  show EX Z _ 106 _ [vR 158, vI v1, vI v2, vU, vU, vU, vU] [vR 159] _ _
  refine ex_pu (ls' := [vR 158, vI v1, vI v2, vU, vU, vU, vU]) (st' := [vI v1, vR 159]) (dg dc106 6 rfl) rfl rfl ?_
  refine ex_ldcI (dg dc106 7 rfl) rfl ?_
  refine ex_iast (dg dc106 8 rfl) (LOC.st (Nat.le_of_ble_eq_true rfl) rfl) rfl rfl hf (fun _ hf => ?_)
  refine ex_gen hf (fun M_4 hM_5 hf => ?_)
  refine ex_pu (ls' := [vR 158, vI v1, vI v2, vU, vU, vU, vU]) (st' := [vI 0]) (dg dc106 9 rfl) rfl rfl ?_
  refine ex_pu (ls' := [vR 158, vI v1, vI v2, vI 0, vU, vU, vU]) (st' := []) (dg dc106 10 rfl) rfl rfl ?_
  refine ways_greatestChance_L18_ok hd  ?_ FU 0 M_4 _ _ _ _ hf
  · intro M_15 j1_16 j3_17 j4_18 j5_19 j6_20 hf
    refine ex_pu (ls' := [vR 158, j1_16, vI v2, j3_17, j4_18, j5_19, j6_20]) (st' := [vR 158]) (dg dc106 88 rfl) rfl rfl ?_
    refine ex_getO (dg dc106 89 rfl) rfl (LOC.st (Nat.le_of_ble_eq_true rfl) rfl) rfl ?_
    show EX Z _ 106 _ [vR 158, j1_16, vI v2, j3_17, j4_18, j5_19, j6_20] [vR 159] _ _
    refine ex_pu (ls' := [vR 158, j1_16, vI v2, j3_17, j4_18, j5_19, j6_20]) (st' := [vI v2, vR 159]) (dg dc106 90 rfl) rfl rfl ?_
    refine ex_iald (dg dc106 91 rfl) (LOC.st (Nat.le_of_ble_eq_true rfl) rfl) rfl hf (fun _ hf => ?_)
    exact ex_ire (dg dc106 92 rfl) rfl hf
-- GlassHill$Ways.placesNearerToOne
def il108 : List (Nat × Instr × Nat) := [(0, .iconst 0, 1), (1, .istore_n 1, 1), (2, .iconst 0, 1), (3, .istore_n 2, 1), (4, .iload_n 2, 1), (5, .bipush 10, 2), (7, .if_icmp .ge 30, 3), (10, .aload_n 0, 1), (11, .getfield 9, 3), (14, .iload_n 2, 1), (15, .iaload, 1), (16, .aload_n 0, 1), (17, .getfield 15, 3), (20, .iload_n 2, 1), (21, .iaload, 1), (22, .if_icmp .ge 9, 3), (25, .iload_n 1, 1), (26, .iconst 1, 1), (27, .iload_n 2, 1), (28, .ishl, 1), (29, .ior, 1), (30, .istore_n 1, 1), (31, .iinc 2 1, 3), (34, .goto (-30), 3), (37, .iload_n 1, 1), (38, .ireturn, 1)]
theorem dc108 : dcs (mC 108) il108 := dc_of (by decide +kernel)
def ways_placesNearerToOne_L4  (K1 : Int → MM → OR) : Nat → Int → Int → MM → OR
  | 0, _, _, _ => none
  | n + 1, v1, v2, M => (bif cmpB .ge v2 10 then (K1 v1 M) else (bif inB v2 10 then (bif inB v2 10 then (bif cmpB .ge (M 159 (v2).toNat) (M 160 (v2).toNat) then (ways_placesNearerToOne_L4  K1 n v1 (v2 + 1) M) else (ways_placesNearerToOne_L4  K1 n (iOr v1 (iShl 1 v2)) (v2 + 1) M)) else none) else none))
set_option maxRecDepth 4000 in
theorem ways_placesNearerToOne_L4_ok {Z : Nat × (Nat → Int)} {d : Nat} (hd : 0 ≤ d)  {K1 : Int → MM → OR} {res : AR × MM} (k1 : ∀ (x1 : Int) (M : MM) (j0 j2 : AV), K1 x1 M = some res → EX Z d 108 37 [j0, vI x1, j2] [] M res) : ∀ (n : Nat) (v1 v2 : Int) (M : MM), ways_placesNearerToOne_L4  K1 n v1 v2 M = some res → EX Z d 108 4 [vR 158, vI v1, vI v2] [] M res := by
  intro n
  induction n with
  | zero =>
    intro v1 v2 M hf
    unfold ways_placesNearerToOne_L4 at hf
    cases hf
  | succ n ih =>
    intro v1 v2 M hf
    unfold ways_placesNearerToOne_L4 at hf
    refine ex_pu (ls' := [vR 158, vI v1, vI v2]) (st' := [vI v2]) (dg dc108 4 rfl) rfl rfl ?_
    refine ex_pu (ls' := [vR 158, vI v1, vI v2]) (st' := [vI 10, vI v2]) (dg dc108 5 rfl) rfl rfl ?_
    refine ex_icmp (t := 37) (dg dc108 6 rfl) rfl hf (fun _ hf => ?_) (fun _ hf => ?_)
    · exact k1 v1 M _ _ hf
    · refine ex_pu (ls' := [vR 158, vI v1, vI v2]) (st' := [vR 158]) (dg dc108 7 rfl) rfl rfl ?_
      refine ex_getO (dg dc108 8 rfl) rfl (LOC.st (Nat.le_of_ble_eq_true rfl) rfl) rfl ?_
      show EX Z _ 108 _ [vR 158, vI v1, vI v2] [vR 159] _ _
      refine ex_pu (ls' := [vR 158, vI v1, vI v2]) (st' := [vI v2, vR 159]) (dg dc108 9 rfl) rfl rfl ?_
      refine ex_iald (dg dc108 10 rfl) (LOC.st (Nat.le_of_ble_eq_true rfl) rfl) rfl hf (fun _ hf => ?_)
      refine ex_pu (ls' := [vR 158, vI v1, vI v2]) (st' := [vR 158, vI (M 159 (v2).toNat)]) (dg dc108 11 rfl) rfl rfl ?_
      refine ex_getO (dg dc108 12 rfl) rfl (LOC.st (Nat.le_of_ble_eq_true rfl) rfl) rfl ?_
      show EX Z _ 108 _ [vR 158, vI v1, vI v2] [vR 160, vI (M 159 (v2).toNat)] _ _
      refine ex_pu (ls' := [vR 158, vI v1, vI v2]) (st' := [vI v2, vR 160, vI (M 159 (v2).toNat)]) (dg dc108 13 rfl) rfl rfl ?_
      refine ex_iald (dg dc108 14 rfl) (LOC.st (Nat.le_of_ble_eq_true rfl) rfl) rfl hf (fun _ hf => ?_)
      refine ex_icmp (t := 31) (dg dc108 15 rfl) rfl hf (fun _ hf => ?_) (fun _ hf => ?_)
      · refine ex_pu (ls' := [vR 158, vI v1, vI (v2 + 1)]) (st' := []) (dg dc108 22 rfl) rfl rfl ?_
        refine ex_goto (t := 4) (dg dc108 23 rfl) rfl rfl ?_
        exact ih v1 (v2 + 1) M hf
      · refine ex_pu (ls' := [vR 158, vI v1, vI v2]) (st' := [vI v1]) (dg dc108 16 rfl) rfl rfl ?_
        refine ex_pu (ls' := [vR 158, vI v1, vI v2]) (st' := [vI 1, vI v1]) (dg dc108 17 rfl) rfl rfl ?_
        refine ex_pu (ls' := [vR 158, vI v1, vI v2]) (st' := [vI v2, vI 1, vI v1]) (dg dc108 18 rfl) rfl rfl ?_
        refine ex_pu (ls' := [vR 158, vI v1, vI v2]) (st' := [vI (iShl 1 v2), vI v1]) (dg dc108 19 rfl) rfl rfl ?_
        refine ex_pu (ls' := [vR 158, vI v1, vI v2]) (st' := [vI (iOr v1 (iShl 1 v2))]) (dg dc108 20 rfl) rfl rfl ?_
        refine ex_pu (ls' := [vR 158, vI (iOr v1 (iShl 1 v2)), vI v2]) (st' := []) (dg dc108 21 rfl) rfl rfl ?_
        refine ex_pu (ls' := [vR 158, vI (iOr v1 (iShl 1 v2)), vI (v2 + 1)]) (st' := []) (dg dc108 22 rfl) rfl rfl ?_
        refine ex_goto (t := 4) (dg dc108 23 rfl) rfl rfl ?_
        exact ih (iOr v1 (iShl 1 v2)) (v2 + 1) M hf
def ways_placesNearerToOne  (M : MM) : OR :=
  (ways_placesNearerToOne_L4  (fun v1_1 M_2 => some (rI v1_1, M_2)) FU 0 0 M)
set_option maxRecDepth 4000 in
theorem ways_placesNearerToOne_ok {Z : Nat × (Nat → Int)} {d : Nat} (hd : 0 ≤ d) {M : MM}  {res : AR × MM} (hf : ways_placesNearerToOne  M = some res) : EX Z d 108 0 (ent 108 [vR 158]) [] M res := by
  unfold ways_placesNearerToOne at hf
  show EX Z _ 108 0 [vR 158, vU, vU] [] M res
  refine ex_pu (ls' := [vR 158, vU, vU]) (st' := [vI 0]) (dg dc108 0 rfl) rfl rfl ?_
  refine ex_pu (ls' := [vR 158, vI 0, vU]) (st' := []) (dg dc108 1 rfl) rfl rfl ?_
  refine ex_pu (ls' := [vR 158, vI 0, vU]) (st' := [vI 0]) (dg dc108 2 rfl) rfl rfl ?_
  refine ex_pu (ls' := [vR 158, vI 0, vI 0]) (st' := []) (dg dc108 3 rfl) rfl rfl ?_
  refine ways_placesNearerToOne_L4_ok hd  ?_ FU 0 0 M hf
  · intro v1_1 M_2 j0_3 j2_4 hf
    refine ex_pu (ls' := [j0_3, vI v1_1, j2_4]) (st' := [vI v1_1]) (dg dc108 24 rfl) rfl rfl ?_
    exact ex_ire (dg dc108 25 rfl) rfl hf
-- GlassHill.feed
def il110 : List (Nat × Instr × Nat) := [(0, .aload_n 0, 1), (1, .getfield 10, 3), (4, .getfield 119, 3), (7, .bipush 20, 2), (9, .iadd, 1), (10, .sipush 400, 3), (13, .if_icmp .le 5, 3), (16, .iconst (-1), 1), (17, .ireturn, 1), (18, .aload_n 0, 1), (19, .getfield 10, 3), (22, .iload_n 1, 1), (23, .invokevirtual 122, 3), (26, .aload_n 0, 1), (27, .getfield 10, 3), (30, .iload_n 2, 1), (31, .invokevirtual 122, 3), (34, .aload_n 0, 1), (35, .getfield 10, 3), (38, .iload_n 3, 1), (39, .invokevirtual 122, 3), (42, .aload_n 0, 1), (43, .getfield 10, 3), (46, .iload 4, 2), (48, .invokevirtual 122, 3), (51, .aload_n 0, 1), (52, .getfield 10, 3), (55, .iload 5, 2), (57, .invokevirtual 122, 3), (60, .aload_n 0, 1), (61, .getfield 10, 3), (64, .getfield 119, 3), (67, .ireturn, 1)]
theorem dc110 : dcs (mC 110) il110 := dc_of (by decide +kernel)
def gh_feed (v1 : Int) (v2 : Int) (v3 : Int) (v4 : Int) (v5 : Int) (M : MM) : OR :=
  (bif cmpB .le ((M 1 1) + 20) 400 then (bV (tape_append v1 M) fun M_2 => (bV (tape_append v2 M_2) fun M_5 => (bV (tape_append v3 M_5) fun M_8 => (bV (tape_append v4 M_8) fun M_11 => (bV (tape_append v5 M_11) fun M_14 => some (rI (M_14 1 1), M_14)))))) else some (rI (-1), M))
set_option maxRecDepth 4000 in
theorem gh_feed_ok {Z : Nat × (Nat → Int)} {d : Nat} (hd : 1 ≤ d) {M : MM}  {v1 v2 v3 v4 v5 : Int} {res : AR × MM} (hf : gh_feed v1 v2 v3 v4 v5 M = some res) : EX Z d 110 0 (ent 110 [vR 0, vI v1, vI v2, vI v3, vI v4, vI v5]) [] M res := by
  obtain ⟨e9, rfl⟩ : ∃ e9, d = e9 + 1 := ⟨d - 1, by omega⟩
  unfold gh_feed at hf
  show EX Z _ 110 0 [vR 0, vI v1, vI v2, vI v3, vI v4, vI v5] [] M res
  refine ex_pu (ls' := [vR 0, vI v1, vI v2, vI v3, vI v4, vI v5]) (st' := [vR 0]) (dg dc110 0 rfl) rfl rfl ?_
  refine ex_getF (dg dc110 1 rfl) rfl (LOC.st (Nat.le_of_ble_eq_true rfl) rfl) rfl ?_
  refine ex_getI (dg dc110 2 rfl) rfl (LOC.st (Nat.le_of_ble_eq_true rfl) rfl) rfl ?_
  refine ex_pu (ls' := [vR 0, vI v1, vI v2, vI v3, vI v4, vI v5]) (st' := [vI 20, vI (M 1 1)]) (dg dc110 3 rfl) rfl rfl ?_
  refine ex_pu (ls' := [vR 0, vI v1, vI v2, vI v3, vI v4, vI v5]) (st' := [vI ((M 1 1) + 20)]) (dg dc110 4 rfl) rfl rfl ?_
  refine ex_pu (ls' := [vR 0, vI v1, vI v2, vI v3, vI v4, vI v5]) (st' := [vI 400, vI ((M 1 1) + 20)]) (dg dc110 5 rfl) rfl rfl ?_
  refine ex_icmp (t := 18) (dg dc110 6 rfl) rfl hf (fun _ hf => ?_) (fun _ hf => ?_)
  · refine ex_pu (ls' := [vR 0, vI v1, vI v2, vI v3, vI v4, vI v5]) (st' := [vR 0]) (dg dc110 9 rfl) rfl rfl ?_
    refine ex_getF (dg dc110 10 rfl) rfl (LOC.st (Nat.le_of_ble_eq_true rfl) rfl) rfl ?_
    refine ex_pu (ls' := [vR 0, vI v1, vI v2, vI v3, vI v4, vI v5]) (st' := [vI v1, vR 1]) (dg dc110 11 rfl) rfl rfl ?_
    refine ex_cV (vs := [vR 1, vI v1]) (st' := []) (F := (tape_append v1 M)) (Or.inr (Or.inl ⟨rfl, (dg dc110 12 rfl)⟩)) rfl rfl (rk1 (LOC.st (Nat.le_of_ble_eq_true rfl) rfl) rfl) rfl (fun _ r9 => tape_append_ok (Z := Z) (d := e9) (by omega)  r9) hf (fun M_2 he_1 hf => ?_)
    refine ex_pu (ls' := [vR 0, vI v1, vI v2, vI v3, vI v4, vI v5]) (st' := [vR 0]) (dg dc110 13 rfl) rfl rfl ?_
    refine ex_getF (dg dc110 14 rfl) rfl (LOC.st (Nat.le_of_ble_eq_true rfl) rfl) rfl ?_
    refine ex_pu (ls' := [vR 0, vI v1, vI v2, vI v3, vI v4, vI v5]) (st' := [vI v2, vR 1]) (dg dc110 15 rfl) rfl rfl ?_
    refine ex_cV (vs := [vR 1, vI v2]) (st' := []) (F := (tape_append v2 M_2)) (Or.inr (Or.inl ⟨rfl, (dg dc110 16 rfl)⟩)) rfl rfl (rk1 (LOC.st (Nat.le_of_ble_eq_true rfl) rfl) rfl) rfl (fun _ r9 => tape_append_ok (Z := Z) (d := e9) (by omega)  r9) hf (fun M_5 he_4 hf => ?_)
    refine ex_pu (ls' := [vR 0, vI v1, vI v2, vI v3, vI v4, vI v5]) (st' := [vR 0]) (dg dc110 17 rfl) rfl rfl ?_
    refine ex_getF (dg dc110 18 rfl) rfl (LOC.st (Nat.le_of_ble_eq_true rfl) rfl) rfl ?_
    refine ex_pu (ls' := [vR 0, vI v1, vI v2, vI v3, vI v4, vI v5]) (st' := [vI v3, vR 1]) (dg dc110 19 rfl) rfl rfl ?_
    refine ex_cV (vs := [vR 1, vI v3]) (st' := []) (F := (tape_append v3 M_5)) (Or.inr (Or.inl ⟨rfl, (dg dc110 20 rfl)⟩)) rfl rfl (rk1 (LOC.st (Nat.le_of_ble_eq_true rfl) rfl) rfl) rfl (fun _ r9 => tape_append_ok (Z := Z) (d := e9) (by omega)  r9) hf (fun M_8 he_7 hf => ?_)
    refine ex_pu (ls' := [vR 0, vI v1, vI v2, vI v3, vI v4, vI v5]) (st' := [vR 0]) (dg dc110 21 rfl) rfl rfl ?_
    refine ex_getF (dg dc110 22 rfl) rfl (LOC.st (Nat.le_of_ble_eq_true rfl) rfl) rfl ?_
    refine ex_pu (ls' := [vR 0, vI v1, vI v2, vI v3, vI v4, vI v5]) (st' := [vI v4, vR 1]) (dg dc110 23 rfl) rfl rfl ?_
    refine ex_cV (vs := [vR 1, vI v4]) (st' := []) (F := (tape_append v4 M_8)) (Or.inr (Or.inl ⟨rfl, (dg dc110 24 rfl)⟩)) rfl rfl (rk1 (LOC.st (Nat.le_of_ble_eq_true rfl) rfl) rfl) rfl (fun _ r9 => tape_append_ok (Z := Z) (d := e9) (by omega)  r9) hf (fun M_11 he_10 hf => ?_)
    refine ex_pu (ls' := [vR 0, vI v1, vI v2, vI v3, vI v4, vI v5]) (st' := [vR 0]) (dg dc110 25 rfl) rfl rfl ?_
    refine ex_getF (dg dc110 26 rfl) rfl (LOC.st (Nat.le_of_ble_eq_true rfl) rfl) rfl ?_
    refine ex_pu (ls' := [vR 0, vI v1, vI v2, vI v3, vI v4, vI v5]) (st' := [vI v5, vR 1]) (dg dc110 27 rfl) rfl rfl ?_
    refine ex_cV (vs := [vR 1, vI v5]) (st' := []) (F := (tape_append v5 M_11)) (Or.inr (Or.inl ⟨rfl, (dg dc110 28 rfl)⟩)) rfl rfl (rk1 (LOC.st (Nat.le_of_ble_eq_true rfl) rfl) rfl) rfl (fun _ r9 => tape_append_ok (Z := Z) (d := e9) (by omega)  r9) hf (fun M_14 he_13 hf => ?_)
    refine ex_pu (ls' := [vR 0, vI v1, vI v2, vI v3, vI v4, vI v5]) (st' := [vR 0]) (dg dc110 29 rfl) rfl rfl ?_
    refine ex_getF (dg dc110 30 rfl) rfl (LOC.st (Nat.le_of_ble_eq_true rfl) rfl) rfl ?_
    refine ex_getI (dg dc110 31 rfl) rfl (LOC.st (Nat.le_of_ble_eq_true rfl) rfl) rfl ?_
    exact ex_ire (dg dc110 32 rfl) rfl hf
  · refine ex_pu (ls' := [vR 0, vI v1, vI v2, vI v3, vI v4, vI v5]) (st' := [vI (-1)]) (dg dc110 7 rfl) rfl rfl ?_
    exact ex_ire (dg dc110 8 rfl) rfl hf
-- GlassHill.end
def il111 : List (Nat × Instr × Nat) := [(0, .iload_n 1, 1), (1, .ifCond .lt 14, 3), (4, .iload_n 1, 1), (5, .aload_n 0, 1), (6, .getfield 10, 3), (9, .getfield 119, 3), (12, .if_icmp .le 5, 3), (15, .iconst 0, 1), (16, .ireturn, 1), (17, .aload_n 0, 1), (18, .getfield 10, 3), (21, .iload_n 1, 1), (22, .putfield 119, 3), (25, .iconst 1, 1), (26, .ireturn, 1)]
theorem dc111 : dcs (mC 111) il111 := dc_of (by decide +kernel)
def gh_end (v1 : Int) (M : MM) : OR :=
  (bif cmpB .lt v1 0 then some (rI 0, M) else (bif cmpB .le v1 (M 1 1) then (sM (mU M 1 1 v1) fun M_1 => some (rI 1, M_1)) else some (rI 0, M)))
set_option maxRecDepth 4000 in
theorem gh_end_ok {Z : Nat × (Nat → Int)} {d : Nat} (hd : 0 ≤ d) {M : MM}  {v1 : Int} {res : AR × MM} (hf : gh_end v1 M = some res) : EX Z d 111 0 (ent 111 [vR 0, vI v1]) [] M res := by
  unfold gh_end at hf
  show EX Z _ 111 0 [vR 0, vI v1] [] M res
  refine ex_pu (ls' := [vR 0, vI v1]) (st' := [vI v1]) (dg dc111 0 rfl) rfl rfl ?_
  refine ex_if (t := 15) (dg dc111 1 rfl) rfl hf (fun _ hf => ?_) (fun _ hf => ?_)
  · refine ex_pu (ls' := [vR 0, vI v1]) (st' := [vI 0]) (dg dc111 7 rfl) rfl rfl ?_
    exact ex_ire (dg dc111 8 rfl) rfl hf
  · refine ex_pu (ls' := [vR 0, vI v1]) (st' := [vI v1]) (dg dc111 2 rfl) rfl rfl ?_
    refine ex_pu (ls' := [vR 0, vI v1]) (st' := [vR 0, vI v1]) (dg dc111 3 rfl) rfl rfl ?_
    refine ex_getF (dg dc111 4 rfl) rfl (LOC.st (Nat.le_of_ble_eq_true rfl) rfl) rfl ?_
    refine ex_getI (dg dc111 5 rfl) rfl (LOC.st (Nat.le_of_ble_eq_true rfl) rfl) rfl ?_
    refine ex_icmp (t := 17) (dg dc111 6 rfl) rfl hf (fun _ hf => ?_) (fun _ hf => ?_)
    · refine ex_pu (ls' := [vR 0, vI v1]) (st' := [vR 0]) (dg dc111 9 rfl) rfl rfl ?_
      refine ex_getF (dg dc111 10 rfl) rfl (LOC.st (Nat.le_of_ble_eq_true rfl) rfl) rfl ?_
      refine ex_pu (ls' := [vR 0, vI v1]) (st' := [vI v1, vR 1]) (dg dc111 11 rfl) rfl rfl ?_
      refine ex_putI (dg dc111 12 rfl) rfl (LOC.st (Nat.le_of_ble_eq_true rfl) rfl) rfl rfl rfl ?_
      refine ex_gen hf (fun M_1 hM_2 hf => ?_)
      refine ex_pu (ls' := [vR 0, vI v1]) (st' := [vI 1]) (dg dc111 13 rfl) rfl rfl ?_
      exact ex_ire (dg dc111 14 rfl) rfl hf
    · refine ex_pu (ls' := [vR 0, vI v1]) (st' := [vI 0]) (dg dc111 7 rfl) rfl rfl ?_
      exact ex_ire (dg dc111 8 rfl) rfl hf
-- GlassHill.fault
def il114 : List (Nat × Instr × Nat) := [(0, .aload_n 0, 1), (1, .getfield 10, 3), (4, .getfield 161, 3), (7, .ireturn, 1)]
theorem dc114 : dcs (mC 114) il114 := dc_of (by decide +kernel)
def gh_fault  (M : MM) : OR :=
  some (rI (M 1 2), M)
set_option maxRecDepth 4000 in
theorem gh_fault_ok {Z : Nat × (Nat → Int)} {d : Nat} (hd : 0 ≤ d) {M : MM}  {res : AR × MM} (hf : gh_fault  M = some res) : EX Z d 114 0 (ent 114 [vR 0]) [] M res := by
  unfold gh_fault at hf
  show EX Z _ 114 0 [vR 0] [] M res
  refine ex_pu (ls' := [vR 0]) (st' := [vR 0]) (dg dc114 0 rfl) rfl rfl ?_
  refine ex_getF (dg dc114 1 rfl) rfl (LOC.st (Nat.le_of_ble_eq_true rfl) rfl) rfl ?_
  refine ex_getI (dg dc114 2 rfl) rfl (LOC.st (Nat.le_of_ble_eq_true rfl) rfl) rfl ?_
  exact ex_ire (dg dc114 3 rfl) rfl hf
-- GlassHill.log
def il123 : List (Nat × Instr × Nat) := [(0, .iload_n 2, 1), (1, .ifCond .lt 8, 3), (4, .iload_n 2, 1), (5, .iconst 2, 1), (6, .if_icmp .le 13, 3), (9, .new 201, 3), (12, .dup, 1), (13, .ldc 203, 2), (15, .invokespecial 205, 3), (18, .athrow, 1), (19, .iload_n 1, 1), (20, .ifCond .lt 20, 3), (23, .iload_n 1, 1), (24, .aload_n 0, 1), (25, .getfield 33, 3), (28, .getfield 301, 3), (31, .if_icmp .ge 9, 3), (34, .iload_n 1, 1), (35, .bipush 10, 2), (37, .if_icmp .lt 5, 3), (40, .iconst (-1), 1), (41, .ireturn, 1), (42, .iload_n 2, 1), (43, .lookupswitch 45 #[(0, 25), (1, 35)], 25), (68, .aload_n 0, 1), (69, .getfield 33, 3), (72, .getfield 304, 3), (75, .iload_n 1, 1), (76, .iaload, 1), (77, .ireturn, 1), (78, .aload_n 0, 1), (79, .getfield 33, 3), (82, .getfield 307, 3), (85, .iload_n 1, 1), (86, .iaload, 1), (87, .ireturn, 1), (88, .aload_n 0, 1), (89, .getfield 33, 3), (92, .getfield 310, 3), (95, .iload_n 1, 1), (96, .iaload, 1), (97, .ireturn, 1)]
theorem dc123 : dcs (mC 123) il123 := dc_of (by decide +kernel)
def gh_log (v1 : Int) (v2 : Int) (M : MM) : OR :=
  (bif cmpB .lt v2 0 then thx 16 M else (bif cmpB .le v2 2 then (bif cmpB .lt v1 0 then some (rI (-1), M) else (bif cmpB .ge v1 (M 23 8) then some (rI (-1), M) else (bif cmpB .lt v1 10 then (bif cmpB .eq v2 0 then (bif inB v1 10 then some (rI (M 26 (v1).toNat), M) else none) else (bif cmpB .eq v2 1 then (bif inB v1 10 then some (rI (M 27 (v1).toNat), M) else none) else (bif inB v1 10 then some (rI (M 28 (v1).toNat), M) else none))) else some (rI (-1), M)))) else thx 16 M))
set_option maxRecDepth 4000 in
theorem gh_log_ok {Z : Nat × (Nat → Int)} {d : Nat} (hd : 0 ≤ d) {M : MM}  {v1 v2 : Int} {res : AR × MM} (hf : gh_log v1 v2 M = some res) : EX Z d 123 0 (ent 123 [vR 0, vI v1, vI v2]) [] M res := by
  unfold gh_log at hf
  show EX Z _ 123 0 [vR 0, vI v1, vI v2] [] M res
  refine ex_pu (ls' := [vR 0, vI v1, vI v2]) (st' := [vI v2]) (dg dc123 0 rfl) rfl rfl ?_
  refine ex_if (t := 9) (dg dc123 1 rfl) rfl hf (fun _ hf => ?_) (fun _ hf => ?_)
  · exact ex_thr (ci := 16) (is := 203) (ic := 205) (ln := 9) (dg dc123 5 rfl) rfl (exN_of rfl (dg dc123 6 rfl) (dg dc123 7 rfl) (dg dc123 8 rfl) rfl rfl rfl) (dg dc123 9 rfl) rfl ⟨by decide, by decide⟩ hf
  · refine ex_pu (ls' := [vR 0, vI v1, vI v2]) (st' := [vI v2]) (dg dc123 2 rfl) rfl rfl ?_
    refine ex_pu (ls' := [vR 0, vI v1, vI v2]) (st' := [vI 2, vI v2]) (dg dc123 3 rfl) rfl rfl ?_
    refine ex_icmp (t := 19) (dg dc123 4 rfl) rfl hf (fun _ hf => ?_) (fun _ hf => ?_)
    · refine ex_pu (ls' := [vR 0, vI v1, vI v2]) (st' := [vI v1]) (dg dc123 10 rfl) rfl rfl ?_
      refine ex_if (t := 40) (dg dc123 11 rfl) rfl hf (fun _ hf => ?_) (fun _ hf => ?_)
      · refine ex_pu (ls' := [vR 0, vI v1, vI v2]) (st' := [vI (-1)]) (dg dc123 20 rfl) rfl rfl ?_
        exact ex_ire (dg dc123 21 rfl) rfl hf
      · refine ex_pu (ls' := [vR 0, vI v1, vI v2]) (st' := [vI v1]) (dg dc123 12 rfl) rfl rfl ?_
        refine ex_pu (ls' := [vR 0, vI v1, vI v2]) (st' := [vR 0, vI v1]) (dg dc123 13 rfl) rfl rfl ?_
        refine ex_getF (dg dc123 14 rfl) rfl (LOC.st (Nat.le_of_ble_eq_true rfl) rfl) rfl ?_
        refine ex_getI (dg dc123 15 rfl) rfl (LOC.st (Nat.le_of_ble_eq_true rfl) rfl) rfl ?_
        refine ex_icmp (t := 40) (dg dc123 16 rfl) rfl hf (fun _ hf => ?_) (fun _ hf => ?_)
        · refine ex_pu (ls' := [vR 0, vI v1, vI v2]) (st' := [vI (-1)]) (dg dc123 20 rfl) rfl rfl ?_
          exact ex_ire (dg dc123 21 rfl) rfl hf
        · refine ex_pu (ls' := [vR 0, vI v1, vI v2]) (st' := [vI v1]) (dg dc123 17 rfl) rfl rfl ?_
          refine ex_pu (ls' := [vR 0, vI v1, vI v2]) (st' := [vI 10, vI v1]) (dg dc123 18 rfl) rfl rfl ?_
          refine ex_icmp (t := 42) (dg dc123 19 rfl) rfl hf (fun _ hf => ?_) (fun _ hf => ?_)
          · refine ex_pu (ls' := [vR 0, vI v1, vI v2]) (st' := [vI v2]) (dg dc123 22 rfl) rfl rfl ?_
            refine ex_bif hf (fun hc_1 hf => ?_) (fun hc_1 hf => ?_)
            · refine ex_lsw (t := 68) (dg dc123 23 rfl) hc_1 (by decide +kernel) rfl rfl rfl ?_
              refine ex_pu (ls' := [vR 0, vI v1, vI v2]) (st' := [vR 0]) (dg dc123 24 rfl) rfl rfl ?_
              refine ex_getF (dg dc123 25 rfl) rfl (LOC.st (Nat.le_of_ble_eq_true rfl) rfl) rfl ?_
              refine ex_getO (dg dc123 26 rfl) rfl (LOC.st (Nat.le_of_ble_eq_true rfl) rfl) rfl ?_
              show EX Z _ 123 _ [vR 0, vI v1, vI v2] [vR 26] _ _
              refine ex_pu (ls' := [vR 0, vI v1, vI v2]) (st' := [vI v1, vR 26]) (dg dc123 27 rfl) rfl rfl ?_
              refine ex_iald (dg dc123 28 rfl) (LOC.st (Nat.le_of_ble_eq_true rfl) rfl) rfl hf (fun _ hf => ?_)
              exact ex_ire (dg dc123 29 rfl) rfl hf
            ·
              refine ex_bif hf (fun hc_2 hf => ?_) (fun hc_2 hf => ?_)
              · refine ex_lsw (t := 78) (dg dc123 23 rfl) hc_2 (by decide +kernel) rfl rfl rfl ?_
                refine ex_pu (ls' := [vR 0, vI v1, vI v2]) (st' := [vR 0]) (dg dc123 30 rfl) rfl rfl ?_
                refine ex_getF (dg dc123 31 rfl) rfl (LOC.st (Nat.le_of_ble_eq_true rfl) rfl) rfl ?_
                refine ex_getO (dg dc123 32 rfl) rfl (LOC.st (Nat.le_of_ble_eq_true rfl) rfl) rfl ?_
                show EX Z _ 123 _ [vR 0, vI v1, vI v2] [vR 27] _ _
                refine ex_pu (ls' := [vR 0, vI v1, vI v2]) (st' := [vI v1, vR 27]) (dg dc123 33 rfl) rfl rfl ?_
                refine ex_iald (dg dc123 34 rfl) (LOC.st (Nat.le_of_ble_eq_true rfl) rfl) rfl hf (fun _ hf => ?_)
                exact ex_ire (dg dc123 35 rfl) rfl hf
              · refine ex_lsd (t := 88) (dg dc123 23 rfl) hc_1 hc_2 rfl ?_
                refine ex_pu (ls' := [vR 0, vI v1, vI v2]) (st' := [vR 0]) (dg dc123 36 rfl) rfl rfl ?_
                refine ex_getF (dg dc123 37 rfl) rfl (LOC.st (Nat.le_of_ble_eq_true rfl) rfl) rfl ?_
                refine ex_getO (dg dc123 38 rfl) rfl (LOC.st (Nat.le_of_ble_eq_true rfl) rfl) rfl ?_
                show EX Z _ 123 _ [vR 0, vI v1, vI v2] [vR 28] _ _
                refine ex_pu (ls' := [vR 0, vI v1, vI v2]) (st' := [vI v1, vR 28]) (dg dc123 39 rfl) rfl rfl ?_
                refine ex_iald (dg dc123 40 rfl) (LOC.st (Nat.le_of_ble_eq_true rfl) rfl) rfl hf (fun _ hf => ?_)
                exact ex_ire (dg dc123 41 rfl) rfl hf
          · refine ex_pu (ls' := [vR 0, vI v1, vI v2]) (st' := [vI (-1)]) (dg dc123 20 rfl) rfl rfl ?_
            exact ex_ire (dg dc123 21 rfl) rfl hf
    · exact ex_thr (ci := 16) (is := 203) (ic := 205) (ln := 9) (dg dc123 5 rfl) rfl (exN_of rfl (dg dc123 6 rfl) (dg dc123 7 rfl) (dg dc123 8 rfl) rfl rfl rfl) (dg dc123 9 rfl) rfl ⟨by decide, by decide⟩ hf
-- GlassHill.undo
def il131 : List (Nat × Instr × Nat) := [(0, .aload_n 0, 1), (1, .getfield 80, 3), (4, .aload_n 0, 1), (5, .getfield 33, 3), (8, .invokevirtual 376, 3), (11, .ifCond .ne 5, 3), (14, .iconst 0, 1), (15, .ireturn, 1), (16, .aload_n 0, 1), (17, .dup, 1), (18, .getfield 115, 3), (21, .iconst 1, 1), (22, .iadd, 1), (23, .putfield 115, 3), (26, .iconst 1, 1), (27, .ireturn, 1)]
theorem dc131 : dcs (mC 131) il131 := dc_of (by decide +kernel)
def gh_undo  (M : MM) : OR :=
  (bI (memo_recall 23 M) fun z_3 M_2 => (bif cmpB .ne z_3 0 then (sM (mU M_2 0 18 ((M_2 0 18) + 1)) fun M_4 => some (rI 1, M_4)) else some (rI 0, M_2)))
set_option maxRecDepth 4000 in
theorem gh_undo_ok {Z : Nat × (Nat → Int)} {d : Nat} (hd : 3 ≤ d) {M : MM}  {res : AR × MM} (hf : gh_undo  M = some res) : EX Z d 131 0 (ent 131 [vR 0]) [] M res := by
  obtain ⟨e9, rfl⟩ : ∃ e9, d = e9 + 1 := ⟨d - 1, by omega⟩
  unfold gh_undo at hf
  show EX Z _ 131 0 [vR 0] [] M res
  refine ex_pu (ls' := [vR 0]) (st' := [vR 0]) (dg dc131 0 rfl) rfl rfl ?_
  refine ex_getF (dg dc131 1 rfl) rfl (LOC.st (Nat.le_of_ble_eq_true rfl) rfl) rfl ?_
  refine ex_pu (ls' := [vR 0]) (st' := [vR 0, vR 83]) (dg dc131 2 rfl) rfl rfl ?_
  refine ex_getF (dg dc131 3 rfl) rfl (LOC.st (Nat.le_of_ble_eq_true rfl) rfl) rfl ?_
  refine ex_cI (vs := [vR 83, vR 23]) (st' := []) (F := (memo_recall 23 M)) (Or.inr (Or.inl ⟨rfl, (dg dc131 4 rfl)⟩)) rfl rfl (rk1 (LOC.st (Nat.le_of_ble_eq_true rfl) rfl) rfl) rfl (fun _ r9 => memo_recall_ok (Z := Z) (d := e9) (by omega) isJny23  r9) hf (fun z_3 M_2 he_1 hf => ?_)
  refine ex_if (t := 16) (dg dc131 5 rfl) rfl hf (fun _ hf => ?_) (fun _ hf => ?_)
  · refine ex_pu (ls' := [vR 0]) (st' := [vR 0]) (dg dc131 8 rfl) rfl rfl ?_
    refine ex_pu (ls' := [vR 0]) (st' := [vR 0, vR 0]) (dg dc131 9 rfl) rfl rfl ?_
    refine ex_getI (dg dc131 10 rfl) rfl (LOC.st (Nat.le_of_ble_eq_true rfl) rfl) rfl ?_
    refine ex_pu (ls' := [vR 0]) (st' := [vI 1, vI (M_2 0 18), vR 0]) (dg dc131 11 rfl) rfl rfl ?_
    refine ex_pu (ls' := [vR 0]) (st' := [vI ((M_2 0 18) + 1), vR 0]) (dg dc131 12 rfl) rfl rfl ?_
    refine ex_putI (dg dc131 13 rfl) rfl (LOC.st (Nat.le_of_ble_eq_true rfl) rfl) rfl rfl rfl ?_
    refine ex_gen hf (fun M_4 hM_5 hf => ?_)
    refine ex_pu (ls' := [vR 0]) (st' := [vI 1]) (dg dc131 14 rfl) rfl rfl ?_
    exact ex_ire (dg dc131 15 rfl) rfl hf
  · refine ex_pu (ls' := [vR 0]) (st' := [vI 0]) (dg dc131 6 rfl) rfl rfl ?_
    exact ex_ire (dg dc131 7 rfl) rfl hf
-- GlassHill.image
def il132 : List (Nat × Instr × Nat) := [(0, .aload_n 0, 1), (1, .getfield 46, 3), (4, .aload_n 0, 1), (5, .getfield 19, 3), (8, .invokevirtual 126, 3), (11, .aload_n 0, 1), (12, .getfield 49, 3), (15, .aload_n 0, 1), (16, .getfield 26, 3), (19, .invokevirtual 155, 3), (22, .aload_n 0, 1), (23, .getfield 52, 3), (26, .aload_n 0, 1), (27, .getfield 33, 3), (30, .invokevirtual 129, 3), (33, .aload_n 0, 1), (34, .iconst 1, 1), (35, .putfield 55, 3), (38, .return_, 1)]
theorem dc132 : dcs (mC 132) il132 := dc_of (by decide +kernel)
def gh_image  (M : MM) : OR :=
  (bV (land_copyFrom 55 3 M) fun M_2 => (bV (law_copyFrom 69 17 M_2) fun M_5 => (bV (jny_copyFrom 75 23 M_5) fun M_8 => (sM (mU M_8 0 10 1) fun M_10 => some (rV, M_10)))))
set_option maxRecDepth 4000 in
theorem gh_image_ok {Z : Nat × (Nat → Int)} {d : Nat} (hd : 2 ≤ d) {M : MM}  {res : AR × MM} (hf : gh_image  M = some res) : EX Z d 132 0 (ent 132 [vR 0]) [] M res := by
  obtain ⟨e9, rfl⟩ : ∃ e9, d = e9 + 1 := ⟨d - 1, by omega⟩
  unfold gh_image at hf
  show EX Z _ 132 0 [vR 0] [] M res
  refine ex_pu (ls' := [vR 0]) (st' := [vR 0]) (dg dc132 0 rfl) rfl rfl ?_
  refine ex_getF (dg dc132 1 rfl) rfl (LOC.st (Nat.le_of_ble_eq_true rfl) rfl) rfl ?_
  refine ex_pu (ls' := [vR 0]) (st' := [vR 0, vR 55]) (dg dc132 2 rfl) rfl rfl ?_
  refine ex_getF (dg dc132 3 rfl) rfl (LOC.st (Nat.le_of_ble_eq_true rfl) rfl) rfl ?_
  refine ex_cV (vs := [vR 55, vR 3]) (st' := []) (F := (land_copyFrom 55 3 M)) (Or.inr (Or.inl ⟨rfl, (dg dc132 4 rfl)⟩)) rfl rfl (rk1 (LOC.st (Nat.le_of_ble_eq_true rfl) rfl) rfl) rfl (fun _ r9 => land_copyFrom_ok (Z := Z) (d := e9) (by omega) isLand55 isLand3  r9) hf (fun M_2 he_1 hf => ?_)
  refine ex_pu (ls' := [vR 0]) (st' := [vR 0]) (dg dc132 5 rfl) rfl rfl ?_
  refine ex_getF (dg dc132 6 rfl) rfl (LOC.st (Nat.le_of_ble_eq_true rfl) rfl) rfl ?_
  refine ex_pu (ls' := [vR 0]) (st' := [vR 0, vR 69]) (dg dc132 7 rfl) rfl rfl ?_
  refine ex_getF (dg dc132 8 rfl) rfl (LOC.st (Nat.le_of_ble_eq_true rfl) rfl) rfl ?_
  refine ex_cV (vs := [vR 69, vR 17]) (st' := []) (F := (law_copyFrom 69 17 M_2)) (Or.inr (Or.inl ⟨rfl, (dg dc132 9 rfl)⟩)) rfl rfl (rk1 (LOC.st (Nat.le_of_ble_eq_true rfl) rfl) rfl) rfl (fun _ r9 => law_copyFrom_ok (Z := Z) (d := e9) (by omega) isLaw69 isLaw17  r9) hf (fun M_5 he_4 hf => ?_)
  refine ex_pu (ls' := [vR 0]) (st' := [vR 0]) (dg dc132 10 rfl) rfl rfl ?_
  refine ex_getF (dg dc132 11 rfl) rfl (LOC.st (Nat.le_of_ble_eq_true rfl) rfl) rfl ?_
  refine ex_pu (ls' := [vR 0]) (st' := [vR 0, vR 75]) (dg dc132 12 rfl) rfl rfl ?_
  refine ex_getF (dg dc132 13 rfl) rfl (LOC.st (Nat.le_of_ble_eq_true rfl) rfl) rfl ?_
  refine ex_cV (vs := [vR 75, vR 23]) (st' := []) (F := (jny_copyFrom 75 23 M_5)) (Or.inr (Or.inl ⟨rfl, (dg dc132 14 rfl)⟩)) rfl rfl (rk1 (LOC.st (Nat.le_of_ble_eq_true rfl) rfl) rfl) rfl (fun _ r9 => jny_copyFrom_ok (Z := Z) (d := e9) (by omega) isJny75 isJny23  r9) hf (fun M_8 he_7 hf => ?_)
  refine ex_pu (ls' := [vR 0]) (st' := [vR 0]) (dg dc132 15 rfl) rfl rfl ?_
  refine ex_pu (ls' := [vR 0]) (st' := [vI 1, vR 0]) (dg dc132 16 rfl) rfl rfl ?_
  refine ex_putI (dg dc132 17 rfl) rfl (LOC.st (Nat.le_of_ble_eq_true rfl) rfl) rfl rfl rfl ?_
  refine ex_gen hf (fun M_10 hM_11 hf => ?_)
  exact ex_vre (dg dc132 18 rfl) rfl hf
-- GlassHill.shirts
def il150 : List (Nat × Instr × Nat) := [(0, .iload_n 1, 1), (1, .iconst 1, 1), (2, .if_icmp .lt 20, 3), (5, .iload_n 1, 1), (6, .bipush 64, 2), (8, .if_icmp .gt 14, 3), (11, .iload_n 2, 1), (12, .iconst 1, 1), (13, .if_icmp .lt 9, 3), (16, .iload_n 2, 1), (17, .bipush 9, 2), (19, .if_icmp .le 14, 3), (22, .new 136, 3), (25, .dup, 1), (26, .ldc_w 458, 3), (29, .invokespecial 140, 3), (32, .athrow, 1), (33, .iload 5, 2), (35, .ifCond .eq 12, 3), (38, .iload_n 1, 1), (39, .iload_n 2, 1), (40, .lload_n 3, 1), (41, .invokestatic 460, 3), (44, .goto 9, 3), (47, .iload_n 1, 1), (48, .iload_n 2, 1), (49, .lload_n 3, 1), (50, .invokestatic 464, 3), (53, .ireturn, 1)]
theorem dc150 : dcs (mC 150) il150 := dc_of (by decide +kernel)
def gh_shirts (v1 : Int) (v2 : Int) (v3 : Int) (v5 : Int) (M : MM) : OR :=
  (bif cmpB .lt v1 1 then thx 13 M else (bif cmpB .gt v1 64 then thx 13 M else (bif cmpB .lt v2 1 then thx 13 M else (bif cmpB .le v2 9 then (bif cmpB .eq v5 0 then (bI (ridd_mostShirts v1 v2 v3 M) fun z_3 M_2 => some (rI z_3, M_2)) else (bI (ridd_mostShirtsDumb v1 v2 v3 M) fun z_6 M_5 => some (rI z_6, M_5))) else thx 13 M))))
set_option maxRecDepth 4000 in
theorem gh_shirts_ok {Z : Nat × (Nat → Int)} {d : Nat} (hd : 2 ≤ d) {M : MM}  {v1 v2 v3 v5 : Int} {res : AR × MM} (hf : gh_shirts v1 v2 v3 v5 M = some res) : EX Z d 150 0 (ent 150 [vR 0, vI v1, vI v2, vJ v3, vI v5]) [] M res := by
  obtain ⟨e9, rfl⟩ : ∃ e9, d = e9 + 1 := ⟨d - 1, by omega⟩
  unfold gh_shirts at hf
  show EX Z _ 150 0 [vR 0, vI v1, vI v2, vJ v3, vU, vI v5] [] M res
  refine ex_pu (ls' := [vR 0, vI v1, vI v2, vJ v3, vU, vI v5]) (st' := [vI v1]) (dg dc150 0 rfl) rfl rfl ?_
  refine ex_pu (ls' := [vR 0, vI v1, vI v2, vJ v3, vU, vI v5]) (st' := [vI 1, vI v1]) (dg dc150 1 rfl) rfl rfl ?_
  refine ex_icmp (t := 22) (dg dc150 2 rfl) rfl hf (fun _ hf => ?_) (fun _ hf => ?_)
  · exact ex_thr (ci := 13) (is := 458) (ic := 140) (ln := 10) (dg dc150 12 rfl) rfl (exN_ofW rfl (dg dc150 13 rfl) (dg dc150 14 rfl) (dg dc150 15 rfl) rfl rfl rfl) (dg dc150 16 rfl) rfl ⟨by decide, by decide⟩ hf
  · refine ex_pu (ls' := [vR 0, vI v1, vI v2, vJ v3, vU, vI v5]) (st' := [vI v1]) (dg dc150 3 rfl) rfl rfl ?_
    refine ex_pu (ls' := [vR 0, vI v1, vI v2, vJ v3, vU, vI v5]) (st' := [vI 64, vI v1]) (dg dc150 4 rfl) rfl rfl ?_
    refine ex_icmp (t := 22) (dg dc150 5 rfl) rfl hf (fun _ hf => ?_) (fun _ hf => ?_)
    · exact ex_thr (ci := 13) (is := 458) (ic := 140) (ln := 10) (dg dc150 12 rfl) rfl (exN_ofW rfl (dg dc150 13 rfl) (dg dc150 14 rfl) (dg dc150 15 rfl) rfl rfl rfl) (dg dc150 16 rfl) rfl ⟨by decide, by decide⟩ hf
    · refine ex_pu (ls' := [vR 0, vI v1, vI v2, vJ v3, vU, vI v5]) (st' := [vI v2]) (dg dc150 6 rfl) rfl rfl ?_
      refine ex_pu (ls' := [vR 0, vI v1, vI v2, vJ v3, vU, vI v5]) (st' := [vI 1, vI v2]) (dg dc150 7 rfl) rfl rfl ?_
      refine ex_icmp (t := 22) (dg dc150 8 rfl) rfl hf (fun _ hf => ?_) (fun _ hf => ?_)
      · exact ex_thr (ci := 13) (is := 458) (ic := 140) (ln := 10) (dg dc150 12 rfl) rfl (exN_ofW rfl (dg dc150 13 rfl) (dg dc150 14 rfl) (dg dc150 15 rfl) rfl rfl rfl) (dg dc150 16 rfl) rfl ⟨by decide, by decide⟩ hf
      · refine ex_pu (ls' := [vR 0, vI v1, vI v2, vJ v3, vU, vI v5]) (st' := [vI v2]) (dg dc150 9 rfl) rfl rfl ?_
        refine ex_pu (ls' := [vR 0, vI v1, vI v2, vJ v3, vU, vI v5]) (st' := [vI 9, vI v2]) (dg dc150 10 rfl) rfl rfl ?_
        refine ex_icmp (t := 33) (dg dc150 11 rfl) rfl hf (fun _ hf => ?_) (fun _ hf => ?_)
        · refine ex_pu (ls' := [vR 0, vI v1, vI v2, vJ v3, vU, vI v5]) (st' := [vI v5]) (dg dc150 17 rfl) rfl rfl ?_
          refine ex_if (t := 47) (dg dc150 18 rfl) rfl hf (fun _ hf => ?_) (fun _ hf => ?_)
          · refine ex_pu (ls' := [vR 0, vI v1, vI v2, vJ v3, vU, vI v5]) (st' := [vI v1]) (dg dc150 24 rfl) rfl rfl ?_
            refine ex_pu (ls' := [vR 0, vI v1, vI v2, vJ v3, vU, vI v5]) (st' := [vI v2, vI v1]) (dg dc150 25 rfl) rfl rfl ?_
            refine ex_pu (ls' := [vR 0, vI v1, vI v2, vJ v3, vU, vI v5]) (st' := [vJ v3, vI v2, vI v1]) (dg dc150 26 rfl) rfl rfl ?_
            refine ex_cI (vs := [vI v1, vI v2, vJ v3]) (st' := []) (F := (ridd_mostShirts v1 v2 v3 M)) (Or.inl ⟨rfl, (dg dc150 27 rfl)⟩) rfl rfl (Or.inl rfl) rfl (fun _ r9 => ridd_mostShirts_ok (Z := Z) (d := e9) (by omega)  r9) hf (fun z_3 M_2 he_1 hf => ?_)
            exact ex_ire (dg dc150 28 rfl) rfl hf
          · refine ex_pu (ls' := [vR 0, vI v1, vI v2, vJ v3, vU, vI v5]) (st' := [vI v1]) (dg dc150 19 rfl) rfl rfl ?_
            refine ex_pu (ls' := [vR 0, vI v1, vI v2, vJ v3, vU, vI v5]) (st' := [vI v2, vI v1]) (dg dc150 20 rfl) rfl rfl ?_
            refine ex_pu (ls' := [vR 0, vI v1, vI v2, vJ v3, vU, vI v5]) (st' := [vJ v3, vI v2, vI v1]) (dg dc150 21 rfl) rfl rfl ?_
            refine ex_cI (vs := [vI v1, vI v2, vJ v3]) (st' := []) (F := (ridd_mostShirtsDumb v1 v2 v3 M)) (Or.inl ⟨rfl, (dg dc150 22 rfl)⟩) rfl rfl (Or.inl rfl) rfl (fun _ r9 => ridd_mostShirtsDumb_ok (Z := Z) (d := e9) (by omega)  r9) hf (fun z_6 M_5 he_4 hf => ?_)
            refine ex_goto (t := 53) (dg dc150 23 rfl) rfl rfl ?_
            exact ex_ire (dg dc150 28 rfl) rfl hf
        · exact ex_thr (ci := 13) (is := 458) (ic := 140) (ln := 10) (dg dc150 12 rfl) rfl (exN_ofW rfl (dg dc150 13 rfl) (dg dc150 14 rfl) (dg dc150 15 rfl) rfl rfl rfl) (dg dc150 16 rfl) rfl ⟨by decide, by decide⟩ hf
-- GlassHill.rememberAct
def il152 : List (Nat × Instr × Nat) := [(0, .aload_n 0, 1), (1, .getfield 80, 3), (4, .aload_n 0, 1), (5, .getfield 33, 3), (8, .invokevirtual 471, 3), (11, .aload_n 0, 1), (12, .dup, 1), (13, .getfield 115, 3), (16, .iconst 1, 1), (17, .iadd, 1), (18, .putfield 115, 3), (21, .return_, 1)]
theorem dc152 : dcs (mC 152) il152 := dc_of (by decide +kernel)
def gh_rememberAct  (M : MM) : OR :=
  (bV (memo_keep 23 M) fun M_2 => (sM (mU M_2 0 18 ((M_2 0 18) + 1)) fun M_4 => some (rV, M_4)))
set_option maxRecDepth 4000 in
theorem gh_rememberAct_ok {Z : Nat × (Nat → Int)} {d : Nat} (hd : 3 ≤ d) {M : MM}  {res : AR × MM} (hf : gh_rememberAct  M = some res) : EX Z d 152 0 (ent 152 [vR 0]) [] M res := by
  obtain ⟨e9, rfl⟩ : ∃ e9, d = e9 + 1 := ⟨d - 1, by omega⟩
  unfold gh_rememberAct at hf
  show EX Z _ 152 0 [vR 0] [] M res
  refine ex_pu (ls' := [vR 0]) (st' := [vR 0]) (dg dc152 0 rfl) rfl rfl ?_
  refine ex_getF (dg dc152 1 rfl) rfl (LOC.st (Nat.le_of_ble_eq_true rfl) rfl) rfl ?_
  refine ex_pu (ls' := [vR 0]) (st' := [vR 0, vR 83]) (dg dc152 2 rfl) rfl rfl ?_
  refine ex_getF (dg dc152 3 rfl) rfl (LOC.st (Nat.le_of_ble_eq_true rfl) rfl) rfl ?_
  refine ex_cV (vs := [vR 83, vR 23]) (st' := []) (F := (memo_keep 23 M)) (Or.inr (Or.inl ⟨rfl, (dg dc152 4 rfl)⟩)) rfl rfl (rk1 (LOC.st (Nat.le_of_ble_eq_true rfl) rfl) rfl) rfl (fun _ r9 => memo_keep_ok (Z := Z) (d := e9) (by omega) isJny23  r9) hf (fun M_2 he_1 hf => ?_)
  refine ex_pu (ls' := [vR 0]) (st' := [vR 0]) (dg dc152 5 rfl) rfl rfl ?_
  refine ex_pu (ls' := [vR 0]) (st' := [vR 0, vR 0]) (dg dc152 6 rfl) rfl rfl ?_
  refine ex_getI (dg dc152 7 rfl) rfl (LOC.st (Nat.le_of_ble_eq_true rfl) rfl) rfl ?_
  refine ex_pu (ls' := [vR 0]) (st' := [vI 1, vI (M_2 0 18), vR 0]) (dg dc152 8 rfl) rfl rfl ?_
  refine ex_pu (ls' := [vR 0]) (st' := [vI ((M_2 0 18) + 1), vR 0]) (dg dc152 9 rfl) rfl rfl ?_
  refine ex_putI (dg dc152 10 rfl) rfl (LOC.st (Nat.le_of_ble_eq_true rfl) rfl) rfl rfl rfl ?_
  refine ex_gen hf (fun M_4 hM_5 hf => ?_)
  exact ex_vre (dg dc152 11 rfl) rfl hf
-- GlassHill.forgetActs
def il153 : List (Nat × Instr × Nat) := [(0, .aload_n 0, 1), (1, .getfield 80, 3), (4, .iconst 0, 1), (5, .putfield 336, 3), (8, .aload_n 0, 1), (9, .dup, 1), (10, .getfield 115, 3), (13, .iconst 1, 1), (14, .iadd, 1), (15, .putfield 115, 3), (18, .return_, 1)]
theorem dc153 : dcs (mC 153) il153 := dc_of (by decide +kernel)
def gh_forgetActs  (M : MM) : OR :=
  (sM (mU M 83 0 0) fun M_1 => (sM (mU M_1 0 18 ((M_1 0 18) + 1)) fun M_3 => some (rV, M_3)))
set_option maxRecDepth 4000 in
theorem gh_forgetActs_ok {Z : Nat × (Nat → Int)} {d : Nat} (hd : 0 ≤ d) {M : MM}  {res : AR × MM} (hf : gh_forgetActs  M = some res) : EX Z d 153 0 (ent 153 [vR 0]) [] M res := by
  unfold gh_forgetActs at hf
  show EX Z _ 153 0 [vR 0] [] M res
  refine ex_pu (ls' := [vR 0]) (st' := [vR 0]) (dg dc153 0 rfl) rfl rfl ?_
  refine ex_getF (dg dc153 1 rfl) rfl (LOC.st (Nat.le_of_ble_eq_true rfl) rfl) rfl ?_
  refine ex_pu (ls' := [vR 0]) (st' := [vI 0, vR 83]) (dg dc153 2 rfl) rfl rfl ?_
  refine ex_putI (dg dc153 3 rfl) rfl (LOC.st (Nat.le_of_ble_eq_true rfl) rfl) rfl rfl rfl ?_
  refine ex_gen hf (fun M_1 hM_2 hf => ?_)
  refine ex_pu (ls' := [vR 0]) (st' := [vR 0]) (dg dc153 4 rfl) rfl rfl ?_
  refine ex_pu (ls' := [vR 0]) (st' := [vR 0, vR 0]) (dg dc153 5 rfl) rfl rfl ?_
  refine ex_getI (dg dc153 6 rfl) rfl (LOC.st (Nat.le_of_ble_eq_true rfl) rfl) rfl ?_
  refine ex_pu (ls' := [vR 0]) (st' := [vI 1, vI (M_1 0 18), vR 0]) (dg dc153 7 rfl) rfl rfl ?_
  refine ex_pu (ls' := [vR 0]) (st' := [vI ((M_1 0 18) + 1), vR 0]) (dg dc153 8 rfl) rfl rfl ?_
  refine ex_putI (dg dc153 9 rfl) rfl (LOC.st (Nat.le_of_ble_eq_true rfl) rfl) rfl rfl rfl ?_
  refine ex_gen hf (fun M_3 hM_4 hf => ?_)
  exact ex_vre (dg dc153 10 rfl) rfl hf
-- GlassHill.checkPlace
def il154 : List (Nat × Instr × Nat) := [(0, .iload_n 1, 1), (1, .ifCond .lt 20, 3), (4, .iload_n 1, 1), (5, .aload_n 0, 1), (6, .getfield 19, 3), (9, .getfield 313, 3), (12, .if_icmp .ge 9, 3), (15, .iload_n 1, 1), (16, .bipush 10, 2), (18, .if_icmp .lt 14, 3), (21, .new 474, 3), (24, .dup, 1), (25, .ldc_w 476, 3), (28, .invokespecial 478, 3), (31, .athrow, 1), (32, .return_, 1)]
theorem dc154 : dcs (mC 154) il154 := dc_of (by decide +kernel)
def gh_checkPlace (v1 : Int) (M : MM) : OR :=
  (bif cmpB .lt v1 0 then thx 15 M else (bif cmpB .ge v1 (M 3 0) then thx 15 M else (bif cmpB .lt v1 10 then some (rV, M) else thx 15 M)))
set_option maxRecDepth 4000 in
theorem gh_checkPlace_ok {Z : Nat × (Nat → Int)} {d : Nat} (hd : 0 ≤ d) {M : MM}  {v1 : Int} {res : AR × MM} (hf : gh_checkPlace v1 M = some res) : EX Z d 154 0 (ent 154 [vR 0, vI v1]) [] M res := by
  unfold gh_checkPlace at hf
  show EX Z _ 154 0 [vR 0, vI v1] [] M res
  refine ex_pu (ls' := [vR 0, vI v1]) (st' := [vI v1]) (dg dc154 0 rfl) rfl rfl ?_
  refine ex_if (t := 21) (dg dc154 1 rfl) rfl hf (fun _ hf => ?_) (fun _ hf => ?_)
  · exact ex_thr (ci := 15) (is := 476) (ic := 478) (ln := 10) (dg dc154 10 rfl) rfl (exN_ofW rfl (dg dc154 11 rfl) (dg dc154 12 rfl) (dg dc154 13 rfl) rfl rfl rfl) (dg dc154 14 rfl) rfl ⟨by decide, by decide⟩ hf
  · refine ex_pu (ls' := [vR 0, vI v1]) (st' := [vI v1]) (dg dc154 2 rfl) rfl rfl ?_
    refine ex_pu (ls' := [vR 0, vI v1]) (st' := [vR 0, vI v1]) (dg dc154 3 rfl) rfl rfl ?_
    refine ex_getF (dg dc154 4 rfl) rfl (LOC.st (Nat.le_of_ble_eq_true rfl) rfl) rfl ?_
    refine ex_getI (dg dc154 5 rfl) rfl (LOC.st (Nat.le_of_ble_eq_true rfl) rfl) rfl ?_
    refine ex_icmp (t := 21) (dg dc154 6 rfl) rfl hf (fun _ hf => ?_) (fun _ hf => ?_)
    · exact ex_thr (ci := 15) (is := 476) (ic := 478) (ln := 10) (dg dc154 10 rfl) rfl (exN_ofW rfl (dg dc154 11 rfl) (dg dc154 12 rfl) (dg dc154 13 rfl) rfl rfl rfl) (dg dc154 14 rfl) rfl ⟨by decide, by decide⟩ hf
    · refine ex_pu (ls' := [vR 0, vI v1]) (st' := [vI v1]) (dg dc154 7 rfl) rfl rfl ?_
      refine ex_pu (ls' := [vR 0, vI v1]) (st' := [vI 10, vI v1]) (dg dc154 8 rfl) rfl rfl ?_
      refine ex_icmp (t := 32) (dg dc154 9 rfl) rfl hf (fun _ hf => ?_) (fun _ hf => ?_)
      · exact ex_vre (dg dc154 15 rfl) rfl hf
      · exact ex_thr (ci := 15) (is := 476) (ic := 478) (ln := 10) (dg dc154 10 rfl) rfl (exN_ofW rfl (dg dc154 11 rfl) (dg dc154 12 rfl) (dg dc154 13 rfl) rfl rfl rfl) (dg dc154 14 rfl) rfl ⟨by decide, by decide⟩ hf
-- GlassHill.checkThing
def il155 : List (Nat × Instr × Nat) := [(0, .iload_n 1, 1), (1, .ifCond .lt 20, 3), (4, .iload_n 1, 1), (5, .aload_n 0, 1), (6, .getfield 19, 3), (9, .getfield 316, 3), (12, .if_icmp .ge 9, 3), (15, .iload_n 1, 1), (16, .bipush 10, 2), (18, .if_icmp .lt 14, 3), (21, .new 474, 3), (24, .dup, 1), (25, .ldc_w 479, 3), (28, .invokespecial 478, 3), (31, .athrow, 1), (32, .return_, 1)]
theorem dc155 : dcs (mC 155) il155 := dc_of (by decide +kernel)
def gh_checkThing (v1 : Int) (M : MM) : OR :=
  (bif cmpB .lt v1 0 then thx 15 M else (bif cmpB .ge v1 (M 3 1) then thx 15 M else (bif cmpB .lt v1 10 then some (rV, M) else thx 15 M)))
set_option maxRecDepth 4000 in
theorem gh_checkThing_ok {Z : Nat × (Nat → Int)} {d : Nat} (hd : 0 ≤ d) {M : MM}  {v1 : Int} {res : AR × MM} (hf : gh_checkThing v1 M = some res) : EX Z d 155 0 (ent 155 [vR 0, vI v1]) [] M res := by
  unfold gh_checkThing at hf
  show EX Z _ 155 0 [vR 0, vI v1] [] M res
  refine ex_pu (ls' := [vR 0, vI v1]) (st' := [vI v1]) (dg dc155 0 rfl) rfl rfl ?_
  refine ex_if (t := 21) (dg dc155 1 rfl) rfl hf (fun _ hf => ?_) (fun _ hf => ?_)
  · exact ex_thr (ci := 15) (is := 479) (ic := 478) (ln := 10) (dg dc155 10 rfl) rfl (exN_ofW rfl (dg dc155 11 rfl) (dg dc155 12 rfl) (dg dc155 13 rfl) rfl rfl rfl) (dg dc155 14 rfl) rfl ⟨by decide, by decide⟩ hf
  · refine ex_pu (ls' := [vR 0, vI v1]) (st' := [vI v1]) (dg dc155 2 rfl) rfl rfl ?_
    refine ex_pu (ls' := [vR 0, vI v1]) (st' := [vR 0, vI v1]) (dg dc155 3 rfl) rfl rfl ?_
    refine ex_getF (dg dc155 4 rfl) rfl (LOC.st (Nat.le_of_ble_eq_true rfl) rfl) rfl ?_
    refine ex_getI (dg dc155 5 rfl) rfl (LOC.st (Nat.le_of_ble_eq_true rfl) rfl) rfl ?_
    refine ex_icmp (t := 21) (dg dc155 6 rfl) rfl hf (fun _ hf => ?_) (fun _ hf => ?_)
    · exact ex_thr (ci := 15) (is := 479) (ic := 478) (ln := 10) (dg dc155 10 rfl) rfl (exN_ofW rfl (dg dc155 11 rfl) (dg dc155 12 rfl) (dg dc155 13 rfl) rfl rfl rfl) (dg dc155 14 rfl) rfl ⟨by decide, by decide⟩ hf
    · refine ex_pu (ls' := [vR 0, vI v1]) (st' := [vI v1]) (dg dc155 7 rfl) rfl rfl ?_
      refine ex_pu (ls' := [vR 0, vI v1]) (st' := [vI 10, vI v1]) (dg dc155 8 rfl) rfl rfl ?_
      refine ex_icmp (t := 32) (dg dc155 9 rfl) rfl hf (fun _ hf => ?_) (fun _ hf => ?_)
      · exact ex_vre (dg dc155 15 rfl) rfl hf
      · exact ex_thr (ci := 15) (is := 479) (ic := 478) (ln := 10) (dg dc155 10 rfl) rfl (exN_ofW rfl (dg dc155 11 rfl) (dg dc155 12 rfl) (dg dc155 13 rfl) rfl rfl rfl) (dg dc155 14 rfl) rfl ⟨by decide, by decide⟩ hf
-- GlassHill.checkRoad
def il156 : List (Nat × Instr × Nat) := [(0, .iload_n 1, 1), (1, .ifCond .lt 20, 3), (4, .iload_n 1, 1), (5, .aload_n 0, 1), (6, .getfield 19, 3), (9, .getfield 319, 3), (12, .if_icmp .ge 9, 3), (15, .iload_n 1, 1), (16, .bipush 16, 2), (18, .if_icmp .lt 14, 3), (21, .new 474, 3), (24, .dup, 1), (25, .ldc_w 481, 3), (28, .invokespecial 478, 3), (31, .athrow, 1), (32, .return_, 1)]
theorem dc156 : dcs (mC 156) il156 := dc_of (by decide +kernel)
def gh_checkRoad (v1 : Int) (M : MM) : OR :=
  (bif cmpB .lt v1 0 then thx 15 M else (bif cmpB .ge v1 (M 3 2) then thx 15 M else (bif cmpB .lt v1 16 then some (rV, M) else thx 15 M)))
set_option maxRecDepth 4000 in
theorem gh_checkRoad_ok {Z : Nat × (Nat → Int)} {d : Nat} (hd : 0 ≤ d) {M : MM}  {v1 : Int} {res : AR × MM} (hf : gh_checkRoad v1 M = some res) : EX Z d 156 0 (ent 156 [vR 0, vI v1]) [] M res := by
  unfold gh_checkRoad at hf
  show EX Z _ 156 0 [vR 0, vI v1] [] M res
  refine ex_pu (ls' := [vR 0, vI v1]) (st' := [vI v1]) (dg dc156 0 rfl) rfl rfl ?_
  refine ex_if (t := 21) (dg dc156 1 rfl) rfl hf (fun _ hf => ?_) (fun _ hf => ?_)
  · exact ex_thr (ci := 15) (is := 481) (ic := 478) (ln := 10) (dg dc156 10 rfl) rfl (exN_ofW rfl (dg dc156 11 rfl) (dg dc156 12 rfl) (dg dc156 13 rfl) rfl rfl rfl) (dg dc156 14 rfl) rfl ⟨by decide, by decide⟩ hf
  · refine ex_pu (ls' := [vR 0, vI v1]) (st' := [vI v1]) (dg dc156 2 rfl) rfl rfl ?_
    refine ex_pu (ls' := [vR 0, vI v1]) (st' := [vR 0, vI v1]) (dg dc156 3 rfl) rfl rfl ?_
    refine ex_getF (dg dc156 4 rfl) rfl (LOC.st (Nat.le_of_ble_eq_true rfl) rfl) rfl ?_
    refine ex_getI (dg dc156 5 rfl) rfl (LOC.st (Nat.le_of_ble_eq_true rfl) rfl) rfl ?_
    refine ex_icmp (t := 21) (dg dc156 6 rfl) rfl hf (fun _ hf => ?_) (fun _ hf => ?_)
    · exact ex_thr (ci := 15) (is := 481) (ic := 478) (ln := 10) (dg dc156 10 rfl) rfl (exN_ofW rfl (dg dc156 11 rfl) (dg dc156 12 rfl) (dg dc156 13 rfl) rfl rfl rfl) (dg dc156 14 rfl) rfl ⟨by decide, by decide⟩ hf
    · refine ex_pu (ls' := [vR 0, vI v1]) (st' := [vI v1]) (dg dc156 7 rfl) rfl rfl ?_
      refine ex_pu (ls' := [vR 0, vI v1]) (st' := [vI 16, vI v1]) (dg dc156 8 rfl) rfl rfl ?_
      refine ex_icmp (t := 32) (dg dc156 9 rfl) rfl hf (fun _ hf => ?_) (fun _ hf => ?_)
      · exact ex_vre (dg dc156 15 rfl) rfl hf
      · exact ex_thr (ci := 15) (is := 481) (ic := 478) (ln := 10) (dg dc156 10 rfl) rfl (exN_ofW rfl (dg dc156 11 rfl) (dg dc156 12 rfl) (dg dc156 13 rfl) rfl rfl rfl) (dg dc156 14 rfl) rfl ⟨by decide, by decide⟩ hf
-- GlassHill.checkBrother
def il157 : List (Nat × Instr × Nat) := [(0, .iload_n 1, 1), (1, .ifCond .lt 20, 3), (4, .iload_n 1, 1), (5, .aload_n 0, 1), (6, .getfield 19, 3), (9, .getfield 322, 3), (12, .if_icmp .ge 9, 3), (15, .iload_n 1, 1), (16, .bipush 7, 2), (18, .if_icmp .lt 14, 3), (21, .new 474, 3), (24, .dup, 1), (25, .ldc_w 483, 3), (28, .invokespecial 478, 3), (31, .athrow, 1), (32, .return_, 1)]
theorem dc157 : dcs (mC 157) il157 := dc_of (by decide +kernel)
def gh_checkBrother (v1 : Int) (M : MM) : OR :=
  (bif cmpB .lt v1 0 then thx 15 M else (bif cmpB .ge v1 (M 3 3) then thx 15 M else (bif cmpB .lt v1 7 then some (rV, M) else thx 15 M)))
set_option maxRecDepth 4000 in
theorem gh_checkBrother_ok {Z : Nat × (Nat → Int)} {d : Nat} (hd : 0 ≤ d) {M : MM}  {v1 : Int} {res : AR × MM} (hf : gh_checkBrother v1 M = some res) : EX Z d 157 0 (ent 157 [vR 0, vI v1]) [] M res := by
  unfold gh_checkBrother at hf
  show EX Z _ 157 0 [vR 0, vI v1] [] M res
  refine ex_pu (ls' := [vR 0, vI v1]) (st' := [vI v1]) (dg dc157 0 rfl) rfl rfl ?_
  refine ex_if (t := 21) (dg dc157 1 rfl) rfl hf (fun _ hf => ?_) (fun _ hf => ?_)
  · exact ex_thr (ci := 15) (is := 483) (ic := 478) (ln := 10) (dg dc157 10 rfl) rfl (exN_ofW rfl (dg dc157 11 rfl) (dg dc157 12 rfl) (dg dc157 13 rfl) rfl rfl rfl) (dg dc157 14 rfl) rfl ⟨by decide, by decide⟩ hf
  · refine ex_pu (ls' := [vR 0, vI v1]) (st' := [vI v1]) (dg dc157 2 rfl) rfl rfl ?_
    refine ex_pu (ls' := [vR 0, vI v1]) (st' := [vR 0, vI v1]) (dg dc157 3 rfl) rfl rfl ?_
    refine ex_getF (dg dc157 4 rfl) rfl (LOC.st (Nat.le_of_ble_eq_true rfl) rfl) rfl ?_
    refine ex_getI (dg dc157 5 rfl) rfl (LOC.st (Nat.le_of_ble_eq_true rfl) rfl) rfl ?_
    refine ex_icmp (t := 21) (dg dc157 6 rfl) rfl hf (fun _ hf => ?_) (fun _ hf => ?_)
    · exact ex_thr (ci := 15) (is := 483) (ic := 478) (ln := 10) (dg dc157 10 rfl) rfl (exN_ofW rfl (dg dc157 11 rfl) (dg dc157 12 rfl) (dg dc157 13 rfl) rfl rfl rfl) (dg dc157 14 rfl) rfl ⟨by decide, by decide⟩ hf
    · refine ex_pu (ls' := [vR 0, vI v1]) (st' := [vI v1]) (dg dc157 7 rfl) rfl rfl ?_
      refine ex_pu (ls' := [vR 0, vI v1]) (st' := [vI 7, vI v1]) (dg dc157 8 rfl) rfl rfl ?_
      refine ex_icmp (t := 32) (dg dc157 9 rfl) rfl hf (fun _ hf => ?_) (fun _ hf => ?_)
      · exact ex_vre (dg dc157 15 rfl) rfl hf
      · exact ex_thr (ci := 15) (is := 483) (ic := 478) (ln := 10) (dg dc157 10 rfl) rfl (exN_ofW rfl (dg dc157 11 rfl) (dg dc157 12 rfl) (dg dc157 13 rfl) rfl rfl rfl) (dg dc157 14 rfl) rfl ⟨by decide, by decide⟩ hf
-- GlassHill.checkAnyPlace
def il158 : List (Nat × Instr × Nat) := [(0, .aload_n 0, 1), (1, .getfield 19, 3), (4, .getfield 313, 3), (7, .ifCond .ne 14, 3), (10, .new 278, 3), (13, .dup, 1), (14, .ldc_w 485, 3), (17, .invokespecial 282, 3), (20, .athrow, 1), (21, .return_, 1)]
theorem dc158 : dcs (mC 158) il158 := dc_of (by decide +kernel)
def gh_checkAnyPlace  (M : MM) : OR :=
  (bif cmpB .ne (M 3 0) 0 then some (rV, M) else thx 14 M)
set_option maxRecDepth 4000 in
theorem gh_checkAnyPlace_ok {Z : Nat × (Nat → Int)} {d : Nat} (hd : 0 ≤ d) {M : MM}  {res : AR × MM} (hf : gh_checkAnyPlace  M = some res) : EX Z d 158 0 (ent 158 [vR 0]) [] M res := by
  unfold gh_checkAnyPlace at hf
  show EX Z _ 158 0 [vR 0] [] M res
  refine ex_pu (ls' := [vR 0]) (st' := [vR 0]) (dg dc158 0 rfl) rfl rfl ?_
  refine ex_getF (dg dc158 1 rfl) rfl (LOC.st (Nat.le_of_ble_eq_true rfl) rfl) rfl ?_
  refine ex_getI (dg dc158 2 rfl) rfl (LOC.st (Nat.le_of_ble_eq_true rfl) rfl) rfl ?_
  refine ex_if (t := 21) (dg dc158 3 rfl) rfl hf (fun _ hf => ?_) (fun _ hf => ?_)
  · exact ex_vre (dg dc158 9 rfl) rfl hf
  · exact ex_thr (ci := 14) (is := 485) (ic := 282) (ln := 10) (dg dc158 4 rfl) rfl (exN_ofW rfl (dg dc158 5 rfl) (dg dc158 6 rfl) (dg dc158 7 rfl) rfl rfl rfl) (dg dc158 8 rfl) rfl ⟨by decide, by decide⟩ hf
-- GlassHill.bit
def il159 : List (Nat × Instr × Nat) := [(0, .iload_n 0, 1), (1, .iload_n 1, 1), (2, .iushr, 1), (3, .iconst 1, 1), (4, .iand, 1), (5, .ireturn, 1)]
theorem dc159 : dcs (mC 159) il159 := dc_of (by decide +kernel)
def gh_bit (v0 : Int) (v1 : Int) (M : MM) : OR :=
  some (rI (iAnd (iUshr v0 v1) 1), M)
set_option maxRecDepth 4000 in
theorem gh_bit_ok {Z : Nat × (Nat → Int)} {d : Nat} (hd : 0 ≤ d) {M : MM}  {v0 v1 : Int} {res : AR × MM} (hf : gh_bit v0 v1 M = some res) : EX Z d 159 0 (ent 159 [vI v0, vI v1]) [] M res := by
  unfold gh_bit at hf
  show EX Z _ 159 0 [vI v0, vI v1] [] M res
  refine ex_pu (ls' := [vI v0, vI v1]) (st' := [vI v0]) (dg dc159 0 rfl) rfl rfl ?_
  refine ex_pu (ls' := [vI v0, vI v1]) (st' := [vI v1, vI v0]) (dg dc159 1 rfl) rfl rfl ?_
  refine ex_pu (ls' := [vI v0, vI v1]) (st' := [vI (iUshr v0 v1)]) (dg dc159 2 rfl) rfl rfl ?_
  refine ex_pu (ls' := [vI v0, vI v1]) (st' := [vI 1, vI (iUshr v0 v1)]) (dg dc159 3 rfl) rfl rfl ?_
  refine ex_pu (ls' := [vI v0, vI v1]) (st' := [vI (iAnd (iUshr v0 v1) 1)]) (dg dc159 4 rfl) rfl rfl ?_
  exact ex_ire (dg dc159 5 rfl) rfl hf
-- GlassHillModel.thrown
def il161 : List (Nat × Instr × Nat) := [(0, .aload_n 0, 1), (1, .getfield 3, 3), (4, .ireturn, 1)]
theorem dc161 : dcs (mC 161) il161 := dc_of (by decide +kernel)
def mo_thrown  (M : MM) : OR :=
  some (rI (M 165 0), M)
set_option maxRecDepth 4000 in
theorem mo_thrown_ok {Z : Nat × (Nat → Int)} {d : Nat} (hd : 0 ≤ d) {M : MM}  {res : AR × MM} (hf : mo_thrown  M = some res) : EX Z d 161 0 (ent 161 [vR 165]) [] M res := by
  unfold mo_thrown at hf
  show EX Z _ 161 0 [vR 165] [] M res
  refine ex_pu (ls' := [vR 165]) (st' := [vR 165]) (dg dc161 0 rfl) rfl rfl ?_
  refine ex_getI (dg dc161 1 rfl) rfl (LOC.st (Nat.le_of_ble_eq_true rfl) rfl) rfl ?_
  exact ex_ire (dg dc161 2 rfl) rfl hf
-- GlassHillModel.throwsIf
def il162 : List (Nat × Instr × Nat) := [(0, .iload_n 1, 1), (1, .ifCond .eq 8, 3), (4, .aload_n 0, 1), (5, .iload_n 2, 1), (6, .putfield 3, 3), (9, .iload_n 1, 1), (10, .ireturn, 1)]
theorem dc162 : dcs (mC 162) il162 := dc_of (by decide +kernel)
def mo_throwsIf (v1 : Int) (v2 : Int) (M : MM) : OR :=
  (bif cmpB .eq v1 0 then (bif zo v1 then some (rI v1, M) else none) else (sM (mU M 165 0 v2) fun M_1 => (bif zo v1 then some (rI v1, M_1) else none)))
set_option maxRecDepth 4000 in
theorem mo_throwsIf_ok {Z : Nat × (Nat → Int)} {d : Nat} (hd : 0 ≤ d) {M : MM}  {v1 v2 : Int} {res : AR × MM} (hf : mo_throwsIf v1 v2 M = some res) : EX Z d 162 0 (ent 162 [vR 165, vI v1, vI v2]) [] M res := by
  unfold mo_throwsIf at hf
  show EX Z _ 162 0 [vR 165, vI v1, vI v2] [] M res
  refine ex_pu (ls' := [vR 165, vI v1, vI v2]) (st' := [vI v1]) (dg dc162 0 rfl) rfl rfl ?_
  refine ex_if (t := 9) (dg dc162 1 rfl) rfl hf (fun _ hf => ?_) (fun _ hf => ?_)
  · refine ex_pu (ls' := [vR 165, vI v1, vI v2]) (st' := [vI v1]) (dg dc162 5 rfl) rfl rfl ?_
    exact ex_irb (dg dc162 6 rfl) rfl hf
  · refine ex_pu (ls' := [vR 165, vI v1, vI v2]) (st' := [vR 165]) (dg dc162 2 rfl) rfl rfl ?_
    refine ex_pu (ls' := [vR 165, vI v1, vI v2]) (st' := [vI v2, vR 165]) (dg dc162 3 rfl) rfl rfl ?_
    refine ex_putI (dg dc162 4 rfl) rfl (LOC.st (Nat.le_of_ble_eq_true rfl) rfl) rfl rfl rfl ?_
    refine ex_gen hf (fun M_1 hM_2 hf => ?_)
    refine ex_pu (ls' := [vR 165, vI v1, vI v2]) (st' := [vI v1]) (dg dc162 5 rfl) rfl rfl ?_
    exact ex_irb (dg dc162 6 rfl) rfl hf
-- GlassHillModel.in
def il163 : List (Nat × Instr × Nat) := [(0, .iload_n 0, 1), (1, .iload_n 1, 1), (2, .if_icmp .lt 12, 3), (5, .iload_n 0, 1), (6, .iload_n 2, 1), (7, .if_icmp .gt 7, 3), (10, .iconst 1, 1), (11, .goto 4, 3), (14, .iconst 0, 1), (15, .ireturn, 1)]
theorem dc163 : dcs (mC 163) il163 := dc_of (by decide +kernel)
def mo_in (v0 : Int) (v1 : Int) (v2 : Int) (M : MM) : OR :=
  (bif cmpB .lt v0 v1 then some (rI 0, M) else (bif cmpB .gt v0 v2 then some (rI 0, M) else some (rI 1, M)))
set_option maxRecDepth 4000 in
theorem mo_in_ok {Z : Nat × (Nat → Int)} {d : Nat} (hd : 0 ≤ d) {M : MM}  {v0 v1 v2 : Int} {res : AR × MM} (hf : mo_in v0 v1 v2 M = some res) : EX Z d 163 0 (ent 163 [vI v0, vI v1, vI v2]) [] M res := by
  unfold mo_in at hf
  show EX Z _ 163 0 [vI v0, vI v1, vI v2] [] M res
  refine ex_pu (ls' := [vI v0, vI v1, vI v2]) (st' := [vI v0]) (dg dc163 0 rfl) rfl rfl ?_
  refine ex_pu (ls' := [vI v0, vI v1, vI v2]) (st' := [vI v1, vI v0]) (dg dc163 1 rfl) rfl rfl ?_
  refine ex_icmp (t := 14) (dg dc163 2 rfl) rfl hf (fun _ hf => ?_) (fun _ hf => ?_)
  · refine ex_pu (ls' := [vI v0, vI v1, vI v2]) (st' := [vI 0]) (dg dc163 8 rfl) rfl rfl ?_
    exact ex_ire (dg dc163 9 rfl) rfl hf
  · refine ex_pu (ls' := [vI v0, vI v1, vI v2]) (st' := [vI v0]) (dg dc163 3 rfl) rfl rfl ?_
    refine ex_pu (ls' := [vI v0, vI v1, vI v2]) (st' := [vI v2, vI v0]) (dg dc163 4 rfl) rfl rfl ?_
    refine ex_icmp (t := 14) (dg dc163 5 rfl) rfl hf (fun _ hf => ?_) (fun _ hf => ?_)
    · refine ex_pu (ls' := [vI v0, vI v1, vI v2]) (st' := [vI 0]) (dg dc163 8 rfl) rfl rfl ?_
      exact ex_ire (dg dc163 9 rfl) rfl hf
    · refine ex_pu (ls' := [vI v0, vI v1, vI v2]) (st' := [vI 1]) (dg dc163 6 rfl) rfl rfl ?_
      refine ex_goto (t := 15) (dg dc163 7 rfl) rfl rfl ?_
      exact ex_ire (dg dc163 9 rfl) rfl hf
