/-! ===== METHODS 2 ===== -/
-- GlassHillModel.roadOf
def il220 : List (Nat × Instr × Nat) := [(0, .lload_n 0, 1), (1, .bipush 9, 2), (3, .iconst 5, 1), (4, .invokestatic 277, 3), (7, .iconst 1, 1), (8, .isub, 1), (9, .ireturn, 1)]
theorem dc220 : dcs (mC 220) il220 := dc_of (by decide +kernel)
def mo_roadOf (v0 : Int) (M : MM) : OR :=
  (bI (mo_field v0 9 5 M) fun z_3 M_2 => some (rI (z_3 - 1), M_2))
set_option maxRecDepth 4000 in
theorem mo_roadOf_ok {Z : Nat × (Nat → Int)} {d : Nat} (hd : 1 ≤ d) {M : MM}  {v0 : Int} {res : AR × MM} (hf : mo_roadOf v0 M = some res) : EX Z d 220 0 (ent 220 [vJ v0]) [] M res := by
  obtain ⟨e9, rfl⟩ : ∃ e9, d = e9 + 1 := ⟨d - 1, by omega⟩
  unfold mo_roadOf at hf
  show EX Z _ 220 0 [vJ v0, vU] [] M res
  refine ex_pu (ls' := [vJ v0, vU]) (st' := [vJ v0]) (dg dc220 0 rfl) rfl rfl ?_
  refine ex_pu (ls' := [vJ v0, vU]) (st' := [vI 9, vJ v0]) (dg dc220 1 rfl) rfl rfl ?_
  refine ex_pu (ls' := [vJ v0, vU]) (st' := [vI 5, vI 9, vJ v0]) (dg dc220 2 rfl) rfl rfl ?_
  refine ex_cI (vs := [vJ v0, vI 9, vI 5]) (st' := []) (F := (mo_field v0 9 5 M)) (Or.inl ⟨rfl, (dg dc220 3 rfl)⟩) rfl rfl (Or.inl rfl) rfl (fun _ r9 => mo_field_ok (Z := Z) (d := e9) (by omega)  r9) hf (fun z_3 M_2 he_1 hf => ?_)
  refine ex_pu (ls' := [vJ v0, vU]) (st' := [vI 1, vI z_3]) (dg dc220 4 rfl) rfl rfl ?_
  refine ex_pu (ls' := [vJ v0, vU]) (st' := [vI (z_3 - 1)]) (dg dc220 5 rfl) rfl rfl ?_
  exact ex_ire (dg dc220 6 rfl) rfl hf
-- GlassHillModel.stateOf
def il221 : List (Nat × Instr × Nat) := [(0, .lload_n 0, 1), (1, .bipush 14, 2), (3, .iconst 2, 1), (4, .iload_n 2, 1), (5, .imul, 1), (6, .iadd, 1), (7, .iconst 2, 1), (8, .invokestatic 277, 3), (11, .ireturn, 1)]
theorem dc221 : dcs (mC 221) il221 := dc_of (by decide +kernel)
def mo_stateOf (v0 : Int) (v2 : Int) (M : MM) : OR :=
  (bI (mo_field v0 (14 + (2 * v2)) 2 M) fun z_3 M_2 => some (rI z_3, M_2))
set_option maxRecDepth 4000 in
theorem mo_stateOf_ok {Z : Nat × (Nat → Int)} {d : Nat} (hd : 1 ≤ d) {M : MM}  {v0 v2 : Int} {res : AR × MM} (hf : mo_stateOf v0 v2 M = some res) : EX Z d 221 0 (ent 221 [vJ v0, vI v2]) [] M res := by
  obtain ⟨e9, rfl⟩ : ∃ e9, d = e9 + 1 := ⟨d - 1, by omega⟩
  unfold mo_stateOf at hf
  show EX Z _ 221 0 [vJ v0, vU, vI v2] [] M res
  refine ex_pu (ls' := [vJ v0, vU, vI v2]) (st' := [vJ v0]) (dg dc221 0 rfl) rfl rfl ?_
  refine ex_pu (ls' := [vJ v0, vU, vI v2]) (st' := [vI 14, vJ v0]) (dg dc221 1 rfl) rfl rfl ?_
  refine ex_pu (ls' := [vJ v0, vU, vI v2]) (st' := [vI 2, vI 14, vJ v0]) (dg dc221 2 rfl) rfl rfl ?_
  refine ex_pu (ls' := [vJ v0, vU, vI v2]) (st' := [vI v2, vI 2, vI 14, vJ v0]) (dg dc221 3 rfl) rfl rfl ?_
  refine ex_pu (ls' := [vJ v0, vU, vI v2]) (st' := [vI (2 * v2), vI 14, vJ v0]) (dg dc221 4 rfl) rfl rfl ?_
  refine ex_pu (ls' := [vJ v0, vU, vI v2]) (st' := [vI (14 + (2 * v2)), vJ v0]) (dg dc221 5 rfl) rfl rfl ?_
  refine ex_pu (ls' := [vJ v0, vU, vI v2]) (st' := [vI 2, vI (14 + (2 * v2)), vJ v0]) (dg dc221 6 rfl) rfl rfl ?_
  refine ex_cI (vs := [vJ v0, vI (14 + (2 * v2)), vI 2]) (st' := []) (F := (mo_field v0 (14 + (2 * v2)) 2 M)) (Or.inl ⟨rfl, (dg dc221 7 rfl)⟩) rfl rfl (Or.inl rfl) rfl (fun _ r9 => mo_field_ok (Z := Z) (d := e9) (by omega)  r9) hf (fun z_3 M_2 he_1 hf => ?_)
  exact ex_ire (dg dc221 8 rfl) rfl hf
-- GlassHillModel.passedIn
def il222 : List (Nat × Instr × Nat) := [(0, .lload_n 0, 1), (1, .bipush 34, 2), (3, .bipush 10, 2), (5, .invokestatic 277, 3), (8, .ireturn, 1)]
theorem dc222 : dcs (mC 222) il222 := dc_of (by decide +kernel)
def mo_passedIn (v0 : Int) (M : MM) : OR :=
  (bI (mo_field v0 34 10 M) fun z_3 M_2 => some (rI z_3, M_2))
set_option maxRecDepth 4000 in
theorem mo_passedIn_ok {Z : Nat × (Nat → Int)} {d : Nat} (hd : 1 ≤ d) {M : MM}  {v0 : Int} {res : AR × MM} (hf : mo_passedIn v0 M = some res) : EX Z d 222 0 (ent 222 [vJ v0]) [] M res := by
  obtain ⟨e9, rfl⟩ : ∃ e9, d = e9 + 1 := ⟨d - 1, by omega⟩
  unfold mo_passedIn at hf
  show EX Z _ 222 0 [vJ v0, vU] [] M res
  refine ex_pu (ls' := [vJ v0, vU]) (st' := [vJ v0]) (dg dc222 0 rfl) rfl rfl ?_
  refine ex_pu (ls' := [vJ v0, vU]) (st' := [vI 34, vJ v0]) (dg dc222 1 rfl) rfl rfl ?_
  refine ex_pu (ls' := [vJ v0, vU]) (st' := [vI 10, vI 34, vJ v0]) (dg dc222 2 rfl) rfl rfl ?_
  refine ex_cI (vs := [vJ v0, vI 34, vI 10]) (st' := []) (F := (mo_field v0 34 10 M)) (Or.inl ⟨rfl, (dg dc222 3 rfl)⟩) rfl rfl (Or.inl rfl) rfl (fun _ r9 => mo_field_ok (Z := Z) (d := e9) (by omega)  r9) hf (fun z_3 M_2 he_1 hf => ?_)
  exact ex_ire (dg dc222 4 rfl) rfl hf
-- GlassHillModel.freedIn
def il223 : List (Nat × Instr × Nat) := [(0, .lload_n 0, 1), (1, .bipush 44, 2), (3, .bipush 7, 2), (5, .invokestatic 277, 3), (8, .ireturn, 1)]
theorem dc223 : dcs (mC 223) il223 := dc_of (by decide +kernel)
def mo_freedIn (v0 : Int) (M : MM) : OR :=
  (bI (mo_field v0 44 7 M) fun z_3 M_2 => some (rI z_3, M_2))
set_option maxRecDepth 4000 in
theorem mo_freedIn_ok {Z : Nat × (Nat → Int)} {d : Nat} (hd : 1 ≤ d) {M : MM}  {v0 : Int} {res : AR × MM} (hf : mo_freedIn v0 M = some res) : EX Z d 223 0 (ent 223 [vJ v0]) [] M res := by
  obtain ⟨e9, rfl⟩ : ∃ e9, d = e9 + 1 := ⟨d - 1, by omega⟩
  unfold mo_freedIn at hf
  show EX Z _ 223 0 [vJ v0, vU] [] M res
  refine ex_pu (ls' := [vJ v0, vU]) (st' := [vJ v0]) (dg dc223 0 rfl) rfl rfl ?_
  refine ex_pu (ls' := [vJ v0, vU]) (st' := [vI 44, vJ v0]) (dg dc223 1 rfl) rfl rfl ?_
  refine ex_pu (ls' := [vJ v0, vU]) (st' := [vI 7, vI 44, vJ v0]) (dg dc223 2 rfl) rfl rfl ?_
  refine ex_cI (vs := [vJ v0, vI 44, vI 7]) (st' := []) (F := (mo_field v0 44 7 M)) (Or.inl ⟨rfl, (dg dc223 3 rfl)⟩) rfl rfl (Or.inl rfl) rfl (fun _ r9 => mo_field_ok (Z := Z) (d := e9) (by omega)  r9) hf (fun z_3 M_2 he_1 hf => ?_)
  exact ex_ire (dg dc223 4 rfl) rfl hf
-- GlassHillModel.with
def il224 : List (Nat × Instr × Nat) := [(0, .lload_n 0, 1), (1, .lconst 1, 1), (2, .iload_n 3, 1), (3, .lshl, 1), (4, .lconst 1, 1), (5, .lsub, 1), (6, .iload_n 2, 1), (7, .lshl, 1), (8, .ldc2_w 281, 3), (11, .lxor, 1), (12, .land, 1), (13, .iload 4, 2), (15, .i2l, 1), (16, .iload_n 2, 1), (17, .lshl, 1), (18, .lor, 1), (19, .lreturn, 1)]
theorem dc224 : dcs (mC 224) il224 := dc_of (by decide +kernel)
def mo_with (v0 : Int) (v2 : Int) (v3 : Int) (v4 : Int) (M : MM) : OR :=
  some (rJ (lOr (lAnd v0 (lXor (lShl ((lShl 1 v3) - 1) v2) (-1))) (lShl (w32 v4) v2)), M)
set_option maxRecDepth 4000 in
theorem mo_with_ok {Z : Nat × (Nat → Int)} {d : Nat} (hd : 0 ≤ d) {M : MM}  {v0 v2 v3 v4 : Int} {res : AR × MM} (hf : mo_with v0 v2 v3 v4 M = some res) : EX Z d 224 0 (ent 224 [vJ v0, vI v2, vI v3, vI v4]) [] M res := by
  unfold mo_with at hf
  show EX Z _ 224 0 [vJ v0, vU, vI v2, vI v3, vI v4] [] M res
  refine ex_pu (ls' := [vJ v0, vU, vI v2, vI v3, vI v4]) (st' := [vJ v0]) (dg dc224 0 rfl) rfl rfl ?_
  refine ex_pu (ls' := [vJ v0, vU, vI v2, vI v3, vI v4]) (st' := [vJ 1, vJ v0]) (dg dc224 1 rfl) rfl rfl ?_
  refine ex_pu (ls' := [vJ v0, vU, vI v2, vI v3, vI v4]) (st' := [vI v3, vJ 1, vJ v0]) (dg dc224 2 rfl) rfl rfl ?_
  refine ex_pu (ls' := [vJ v0, vU, vI v2, vI v3, vI v4]) (st' := [vJ (lShl 1 v3), vJ v0]) (dg dc224 3 rfl) rfl rfl ?_
  refine ex_pu (ls' := [vJ v0, vU, vI v2, vI v3, vI v4]) (st' := [vJ 1, vJ (lShl 1 v3), vJ v0]) (dg dc224 4 rfl) rfl rfl ?_
  refine ex_pu (ls' := [vJ v0, vU, vI v2, vI v3, vI v4]) (st' := [vJ ((lShl 1 v3) - 1), vJ v0]) (dg dc224 5 rfl) rfl rfl ?_
  refine ex_pu (ls' := [vJ v0, vU, vI v2, vI v3, vI v4]) (st' := [vI v2, vJ ((lShl 1 v3) - 1), vJ v0]) (dg dc224 6 rfl) rfl rfl ?_
  refine ex_pu (ls' := [vJ v0, vU, vI v2, vI v3, vI v4]) (st' := [vJ (lShl ((lShl 1 v3) - 1) v2), vJ v0]) (dg dc224 7 rfl) rfl rfl ?_
  refine ex_ldc2 (dg dc224 8 rfl) rfl ?_
  refine ex_pu (ls' := [vJ v0, vU, vI v2, vI v3, vI v4]) (st' := [vJ (lXor (lShl ((lShl 1 v3) - 1) v2) (-1)), vJ v0]) (dg dc224 9 rfl) rfl rfl ?_
  refine ex_pu (ls' := [vJ v0, vU, vI v2, vI v3, vI v4]) (st' := [vJ (lAnd v0 (lXor (lShl ((lShl 1 v3) - 1) v2) (-1)))]) (dg dc224 10 rfl) rfl rfl ?_
  refine ex_pu (ls' := [vJ v0, vU, vI v2, vI v3, vI v4]) (st' := [vI v4, vJ (lAnd v0 (lXor (lShl ((lShl 1 v3) - 1) v2) (-1)))]) (dg dc224 11 rfl) rfl rfl ?_
  refine ex_pu (ls' := [vJ v0, vU, vI v2, vI v3, vI v4]) (st' := [vJ (w32 v4), vJ (lAnd v0 (lXor (lShl ((lShl 1 v3) - 1) v2) (-1)))]) (dg dc224 12 rfl) rfl rfl ?_
  refine ex_pu (ls' := [vJ v0, vU, vI v2, vI v3, vI v4]) (st' := [vI v2, vJ (w32 v4), vJ (lAnd v0 (lXor (lShl ((lShl 1 v3) - 1) v2) (-1)))]) (dg dc224 13 rfl) rfl rfl ?_
  refine ex_pu (ls' := [vJ v0, vU, vI v2, vI v3, vI v4]) (st' := [vJ (lShl (w32 v4) v2), vJ (lAnd v0 (lXor (lShl ((lShl 1 v3) - 1) v2) (-1)))]) (dg dc224 14 rfl) rfl rfl ?_
  refine ex_pu (ls' := [vJ v0, vU, vI v2, vI v3, vI v4]) (st' := [vJ (lOr (lAnd v0 (lXor (lShl ((lShl 1 v3) - 1) v2) (-1))) (lShl (w32 v4) v2))]) (dg dc224 15 rfl) rfl rfl ?_
  exact ex_jre (dg dc224 16 rfl) rfl hf
-- GlassHillModel.withState
def il225 : List (Nat × Instr × Nat) := [(0, .lload_n 0, 1), (1, .bipush 14, 2), (3, .iconst 2, 1), (4, .iload_n 2, 1), (5, .imul, 1), (6, .iadd, 1), (7, .iconst 2, 1), (8, .iload_n 3, 1), (9, .invokestatic 283, 3), (12, .lreturn, 1)]
theorem dc225 : dcs (mC 225) il225 := dc_of (by decide +kernel)
def mo_withState (v0 : Int) (v2 : Int) (v3 : Int) (M : MM) : OR :=
  (bJ (mo_with v0 (14 + (2 * v2)) 2 v3 M) fun z_3 M_2 => some (rJ z_3, M_2))
set_option maxRecDepth 4000 in
theorem mo_withState_ok {Z : Nat × (Nat → Int)} {d : Nat} (hd : 1 ≤ d) {M : MM}  {v0 v2 v3 : Int} {res : AR × MM} (hf : mo_withState v0 v2 v3 M = some res) : EX Z d 225 0 (ent 225 [vJ v0, vI v2, vI v3]) [] M res := by
  obtain ⟨e9, rfl⟩ : ∃ e9, d = e9 + 1 := ⟨d - 1, by omega⟩
  unfold mo_withState at hf
  show EX Z _ 225 0 [vJ v0, vU, vI v2, vI v3] [] M res
  refine ex_pu (ls' := [vJ v0, vU, vI v2, vI v3]) (st' := [vJ v0]) (dg dc225 0 rfl) rfl rfl ?_
  refine ex_pu (ls' := [vJ v0, vU, vI v2, vI v3]) (st' := [vI 14, vJ v0]) (dg dc225 1 rfl) rfl rfl ?_
  refine ex_pu (ls' := [vJ v0, vU, vI v2, vI v3]) (st' := [vI 2, vI 14, vJ v0]) (dg dc225 2 rfl) rfl rfl ?_
  refine ex_pu (ls' := [vJ v0, vU, vI v2, vI v3]) (st' := [vI v2, vI 2, vI 14, vJ v0]) (dg dc225 3 rfl) rfl rfl ?_
  refine ex_pu (ls' := [vJ v0, vU, vI v2, vI v3]) (st' := [vI (2 * v2), vI 14, vJ v0]) (dg dc225 4 rfl) rfl rfl ?_
  refine ex_pu (ls' := [vJ v0, vU, vI v2, vI v3]) (st' := [vI (14 + (2 * v2)), vJ v0]) (dg dc225 5 rfl) rfl rfl ?_
  refine ex_pu (ls' := [vJ v0, vU, vI v2, vI v3]) (st' := [vI 2, vI (14 + (2 * v2)), vJ v0]) (dg dc225 6 rfl) rfl rfl ?_
  refine ex_pu (ls' := [vJ v0, vU, vI v2, vI v3]) (st' := [vI v3, vI 2, vI (14 + (2 * v2)), vJ v0]) (dg dc225 7 rfl) rfl rfl ?_
  refine ex_cJ (vs := [vJ v0, vI (14 + (2 * v2)), vI 2, vI v3]) (st' := []) (F := (mo_with v0 (14 + (2 * v2)) 2 v3 M)) (Or.inl ⟨rfl, (dg dc225 8 rfl)⟩) rfl rfl (Or.inl rfl) rfl (fun _ r9 => mo_with_ok (Z := Z) (d := e9) (by omega)  r9) hf (fun z_3 M_2 he_1 hf => ?_)
  exact ex_jre (dg dc225 9 rfl) rfl hf
-- GlassHillModel.passedNow
def il226 : List (Nat × Instr × Nat) := [(0, .iconst 0, 1), (1, .istore_n 1, 1), (2, .iconst 0, 1), (3, .istore_n 2, 1), (4, .iload_n 2, 1), (5, .aload_n 0, 1), (6, .invokevirtual 76, 3), (9, .if_icmp .ge 30, 3), (12, .iload_n 1, 1), (13, .aload_n 0, 1), (14, .iload_n 2, 1), (15, .bipush 7, 2), (17, .invokevirtual 72, 3), (20, .iconst 1, 1), (21, .if_icmp .ne 9, 3), (24, .iconst 1, 1), (25, .iload_n 2, 1), (26, .ishl, 1), (27, .goto 4, 3), (30, .iconst 0, 1), (31, .ior, 1), (32, .istore_n 1, 1), (33, .iinc 2 1, 3), (36, .goto (-32), 3), (39, .iload_n 1, 1), (40, .ireturn, 1)]
theorem dc226 : dcs (mC 226) il226 := dc_of (by decide +kernel)
def mo_passedNow_L4  (K1 : Int → MM → OR) : Nat → Int → Int → MM → OR
  | 0, _, _, _ => none
  | n + 1, v1, v2, M => (bI (mo_places  M) fun z_3 M_2 => (bif cmpB .ge v2 z_3 then (K1 v1 M_2) else (bI (mo_of v2 7 M_2) fun z_6 M_5 => (bif cmpB .ne z_6 1 then (mo_passedNow_L4  K1 n (iOr v1 0) (v2 + 1) M_5) else (mo_passedNow_L4  K1 n (iOr v1 (iShl 1 v2)) (v2 + 1) M_5)))))
set_option maxRecDepth 4000 in
theorem mo_passedNow_L4_ok {Z : Nat × (Nat → Int)} {d : Nat} (hd : 1 ≤ d)  {K1 : Int → MM → OR} {res : AR × MM} (k1 : ∀ (x1 : Int) (M : MM) (j0 j2 : AV), K1 x1 M = some res → EX Z d 226 39 [j0, vI x1, j2] [] M res) : ∀ (n : Nat) (v1 v2 : Int) (M : MM), mo_passedNow_L4  K1 n v1 v2 M = some res → EX Z d 226 4 [vR 165, vI v1, vI v2] [] M res := by
  obtain ⟨e9, rfl⟩ : ∃ e9, d = e9 + 1 := ⟨d - 1, by omega⟩
  intro n
  induction n with
  | zero =>
    intro v1 v2 M hf
    unfold mo_passedNow_L4 at hf
    cases hf
  | succ n ih =>
    intro v1 v2 M hf
    unfold mo_passedNow_L4 at hf
    refine ex_pu (ls' := [vR 165, vI v1, vI v2]) (st' := [vI v2]) (dg dc226 4 rfl) rfl rfl ?_
    refine ex_pu (ls' := [vR 165, vI v1, vI v2]) (st' := [vR 165, vI v2]) (dg dc226 5 rfl) rfl rfl ?_
    refine ex_cI (vs := [vR 165]) (st' := [vI v2]) (F := (mo_places  M)) (Or.inr (Or.inl ⟨rfl, (dg dc226 6 rfl)⟩)) rfl rfl (rk1 (LOC.st (Nat.le_of_ble_eq_true rfl) rfl) rfl) rfl (fun _ r9 => mo_places_ok (Z := Z) (d := e9) (by omega)  r9) hf (fun z_3 M_2 he_1 hf => ?_)
    refine ex_icmp (t := 39) (dg dc226 7 rfl) rfl hf (fun _ hf => ?_) (fun _ hf => ?_)
    · exact k1 v1 M_2 _ _ hf
    · refine ex_pu (ls' := [vR 165, vI v1, vI v2]) (st' := [vI v1]) (dg dc226 8 rfl) rfl rfl ?_
      refine ex_pu (ls' := [vR 165, vI v1, vI v2]) (st' := [vR 165, vI v1]) (dg dc226 9 rfl) rfl rfl ?_
      refine ex_pu (ls' := [vR 165, vI v1, vI v2]) (st' := [vI v2, vR 165, vI v1]) (dg dc226 10 rfl) rfl rfl ?_
      refine ex_pu (ls' := [vR 165, vI v1, vI v2]) (st' := [vI 7, vI v2, vR 165, vI v1]) (dg dc226 11 rfl) rfl rfl ?_
      refine ex_cI (vs := [vR 165, vI v2, vI 7]) (st' := [vI v1]) (F := (mo_of v2 7 M_2)) (Or.inr (Or.inl ⟨rfl, (dg dc226 12 rfl)⟩)) rfl rfl (rk1 (LOC.st (Nat.le_of_ble_eq_true rfl) rfl) rfl) rfl (fun _ r9 => mo_of_ok (Z := Z) (d := e9) (by omega)  r9) hf (fun z_6 M_5 he_4 hf => ?_)
      refine ex_pu (ls' := [vR 165, vI v1, vI v2]) (st' := [vI 1, vI z_6, vI v1]) (dg dc226 13 rfl) rfl rfl ?_
      refine ex_icmp (t := 30) (dg dc226 14 rfl) rfl hf (fun _ hf => ?_) (fun _ hf => ?_)
      · refine ex_pu (ls' := [vR 165, vI v1, vI v2]) (st' := [vI 0, vI v1]) (dg dc226 19 rfl) rfl rfl ?_
        refine ex_pu (ls' := [vR 165, vI v1, vI v2]) (st' := [vI (iOr v1 0)]) (dg dc226 20 rfl) rfl rfl ?_
        refine ex_pu (ls' := [vR 165, vI (iOr v1 0), vI v2]) (st' := []) (dg dc226 21 rfl) rfl rfl ?_
        refine ex_pu (ls' := [vR 165, vI (iOr v1 0), vI (v2 + 1)]) (st' := []) (dg dc226 22 rfl) rfl rfl ?_
        refine ex_goto (t := 4) (dg dc226 23 rfl) rfl rfl ?_
        exact ih (iOr v1 0) (v2 + 1) M_5 hf
      · refine ex_pu (ls' := [vR 165, vI v1, vI v2]) (st' := [vI 1, vI v1]) (dg dc226 15 rfl) rfl rfl ?_
        refine ex_pu (ls' := [vR 165, vI v1, vI v2]) (st' := [vI v2, vI 1, vI v1]) (dg dc226 16 rfl) rfl rfl ?_
        refine ex_pu (ls' := [vR 165, vI v1, vI v2]) (st' := [vI (iShl 1 v2), vI v1]) (dg dc226 17 rfl) rfl rfl ?_
        refine ex_goto (t := 31) (dg dc226 18 rfl) rfl rfl ?_
        refine ex_pu (ls' := [vR 165, vI v1, vI v2]) (st' := [vI (iOr v1 (iShl 1 v2))]) (dg dc226 20 rfl) rfl rfl ?_
        refine ex_pu (ls' := [vR 165, vI (iOr v1 (iShl 1 v2)), vI v2]) (st' := []) (dg dc226 21 rfl) rfl rfl ?_
        refine ex_pu (ls' := [vR 165, vI (iOr v1 (iShl 1 v2)), vI (v2 + 1)]) (st' := []) (dg dc226 22 rfl) rfl rfl ?_
        refine ex_goto (t := 4) (dg dc226 23 rfl) rfl rfl ?_
        exact ih (iOr v1 (iShl 1 v2)) (v2 + 1) M_5 hf
def mo_passedNow  (M : MM) : OR :=
  (mo_passedNow_L4  (fun v1_7 M_8 => some (rI v1_7, M_8)) FU 0 0 M)
set_option maxRecDepth 4000 in
theorem mo_passedNow_ok {Z : Nat × (Nat → Int)} {d : Nat} (hd : 1 ≤ d) {M : MM}  {res : AR × MM} (hf : mo_passedNow  M = some res) : EX Z d 226 0 (ent 226 [vR 165]) [] M res := by
  obtain ⟨e9, rfl⟩ : ∃ e9, d = e9 + 1 := ⟨d - 1, by omega⟩
  unfold mo_passedNow at hf
  show EX Z _ 226 0 [vR 165, vU, vU] [] M res
  refine ex_pu (ls' := [vR 165, vU, vU]) (st' := [vI 0]) (dg dc226 0 rfl) rfl rfl ?_
  refine ex_pu (ls' := [vR 165, vI 0, vU]) (st' := []) (dg dc226 1 rfl) rfl rfl ?_
  refine ex_pu (ls' := [vR 165, vI 0, vU]) (st' := [vI 0]) (dg dc226 2 rfl) rfl rfl ?_
  refine ex_pu (ls' := [vR 165, vI 0, vI 0]) (st' := []) (dg dc226 3 rfl) rfl rfl ?_
  refine mo_passedNow_L4_ok hd  ?_ FU 0 0 M hf
  · intro v1_7 M_8 j0_9 j2_10 hf
    refine ex_pu (ls' := [j0_9, vI v1_7, j2_10]) (st' := [vI v1_7]) (dg dc226 24 rfl) rfl rfl ?_
    exact ex_ire (dg dc226 25 rfl) rfl hf
-- GlassHillModel.freedNow
def il227 : List (Nat × Instr × Nat) := [(0, .iconst 0, 1), (1, .istore_n 1, 1), (2, .iconst 0, 1), (3, .istore_n 2, 1), (4, .iload_n 2, 1), (5, .aload_n 0, 1), (6, .invokevirtual 90, 3), (9, .if_icmp .ge 28, 3), (12, .iload_n 1, 1), (13, .aload_n 0, 1), (14, .iload_n 2, 1), (15, .iconst 5, 1), (16, .invokevirtual 287, 3), (19, .ifCond .lt 9, 3), (22, .iconst 1, 1), (23, .iload_n 2, 1), (24, .ishl, 1), (25, .goto 4, 3), (28, .iconst 0, 1), (29, .ior, 1), (30, .istore_n 1, 1), (31, .iinc 2 1, 3), (34, .goto (-30), 3), (37, .iload_n 1, 1), (38, .ireturn, 1)]
theorem dc227 : dcs (mC 227) il227 := dc_of (by decide +kernel)
def mo_freedNow_L4  (K1 : Int → MM → OR) : Nat → Int → Int → MM → OR
  | 0, _, _, _ => none
  | n + 1, v1, v2, M => (bI (mo_brothers  M) fun z_3 M_2 => (bif cmpB .ge v2 z_3 then (K1 v1 M_2) else (bI (mo_ofBrother v2 5 M_2) fun z_6 M_5 => (bif cmpB .lt z_6 0 then (mo_freedNow_L4  K1 n (iOr v1 0) (v2 + 1) M_5) else (mo_freedNow_L4  K1 n (iOr v1 (iShl 1 v2)) (v2 + 1) M_5)))))
set_option maxRecDepth 4000 in
theorem mo_freedNow_L4_ok {Z : Nat × (Nat → Int)} {d : Nat} (hd : 1 ≤ d)  {K1 : Int → MM → OR} {res : AR × MM} (k1 : ∀ (x1 : Int) (M : MM) (j0 j2 : AV), K1 x1 M = some res → EX Z d 227 37 [j0, vI x1, j2] [] M res) : ∀ (n : Nat) (v1 v2 : Int) (M : MM), mo_freedNow_L4  K1 n v1 v2 M = some res → EX Z d 227 4 [vR 165, vI v1, vI v2] [] M res := by
  obtain ⟨e9, rfl⟩ : ∃ e9, d = e9 + 1 := ⟨d - 1, by omega⟩
  intro n
  induction n with
  | zero =>
    intro v1 v2 M hf
    unfold mo_freedNow_L4 at hf
    cases hf
  | succ n ih =>
    intro v1 v2 M hf
    unfold mo_freedNow_L4 at hf
    refine ex_pu (ls' := [vR 165, vI v1, vI v2]) (st' := [vI v2]) (dg dc227 4 rfl) rfl rfl ?_
    refine ex_pu (ls' := [vR 165, vI v1, vI v2]) (st' := [vR 165, vI v2]) (dg dc227 5 rfl) rfl rfl ?_
    refine ex_cI (vs := [vR 165]) (st' := [vI v2]) (F := (mo_brothers  M)) (Or.inr (Or.inl ⟨rfl, (dg dc227 6 rfl)⟩)) rfl rfl (rk1 (LOC.st (Nat.le_of_ble_eq_true rfl) rfl) rfl) rfl (fun _ r9 => mo_brothers_ok (Z := Z) (d := e9) (by omega)  r9) hf (fun z_3 M_2 he_1 hf => ?_)
    refine ex_icmp (t := 37) (dg dc227 7 rfl) rfl hf (fun _ hf => ?_) (fun _ hf => ?_)
    · exact k1 v1 M_2 _ _ hf
    · refine ex_pu (ls' := [vR 165, vI v1, vI v2]) (st' := [vI v1]) (dg dc227 8 rfl) rfl rfl ?_
      refine ex_pu (ls' := [vR 165, vI v1, vI v2]) (st' := [vR 165, vI v1]) (dg dc227 9 rfl) rfl rfl ?_
      refine ex_pu (ls' := [vR 165, vI v1, vI v2]) (st' := [vI v2, vR 165, vI v1]) (dg dc227 10 rfl) rfl rfl ?_
      refine ex_pu (ls' := [vR 165, vI v1, vI v2]) (st' := [vI 5, vI v2, vR 165, vI v1]) (dg dc227 11 rfl) rfl rfl ?_
      refine ex_cI (vs := [vR 165, vI v2, vI 5]) (st' := [vI v1]) (F := (mo_ofBrother v2 5 M_2)) (Or.inr (Or.inl ⟨rfl, (dg dc227 12 rfl)⟩)) rfl rfl (rk1 (LOC.st (Nat.le_of_ble_eq_true rfl) rfl) rfl) rfl (fun _ r9 => mo_ofBrother_ok (Z := Z) (d := e9) (by omega)  r9) hf (fun z_6 M_5 he_4 hf => ?_)
      refine ex_if (t := 28) (dg dc227 13 rfl) rfl hf (fun _ hf => ?_) (fun _ hf => ?_)
      · refine ex_pu (ls' := [vR 165, vI v1, vI v2]) (st' := [vI 0, vI v1]) (dg dc227 18 rfl) rfl rfl ?_
        refine ex_pu (ls' := [vR 165, vI v1, vI v2]) (st' := [vI (iOr v1 0)]) (dg dc227 19 rfl) rfl rfl ?_
        refine ex_pu (ls' := [vR 165, vI (iOr v1 0), vI v2]) (st' := []) (dg dc227 20 rfl) rfl rfl ?_
        refine ex_pu (ls' := [vR 165, vI (iOr v1 0), vI (v2 + 1)]) (st' := []) (dg dc227 21 rfl) rfl rfl ?_
        refine ex_goto (t := 4) (dg dc227 22 rfl) rfl rfl ?_
        exact ih (iOr v1 0) (v2 + 1) M_5 hf
      · refine ex_pu (ls' := [vR 165, vI v1, vI v2]) (st' := [vI 1, vI v1]) (dg dc227 14 rfl) rfl rfl ?_
        refine ex_pu (ls' := [vR 165, vI v1, vI v2]) (st' := [vI v2, vI 1, vI v1]) (dg dc227 15 rfl) rfl rfl ?_
        refine ex_pu (ls' := [vR 165, vI v1, vI v2]) (st' := [vI (iShl 1 v2), vI v1]) (dg dc227 16 rfl) rfl rfl ?_
        refine ex_goto (t := 29) (dg dc227 17 rfl) rfl rfl ?_
        refine ex_pu (ls' := [vR 165, vI v1, vI v2]) (st' := [vI (iOr v1 (iShl 1 v2))]) (dg dc227 19 rfl) rfl rfl ?_
        refine ex_pu (ls' := [vR 165, vI (iOr v1 (iShl 1 v2)), vI v2]) (st' := []) (dg dc227 20 rfl) rfl rfl ?_
        refine ex_pu (ls' := [vR 165, vI (iOr v1 (iShl 1 v2)), vI (v2 + 1)]) (st' := []) (dg dc227 21 rfl) rfl rfl ?_
        refine ex_goto (t := 4) (dg dc227 22 rfl) rfl rfl ?_
        exact ih (iOr v1 (iShl 1 v2)) (v2 + 1) M_5 hf
def mo_freedNow  (M : MM) : OR :=
  (mo_freedNow_L4  (fun v1_7 M_8 => some (rI v1_7, M_8)) FU 0 0 M)
set_option maxRecDepth 4000 in
theorem mo_freedNow_ok {Z : Nat × (Nat → Int)} {d : Nat} (hd : 1 ≤ d) {M : MM}  {res : AR × MM} (hf : mo_freedNow  M = some res) : EX Z d 227 0 (ent 227 [vR 165]) [] M res := by
  obtain ⟨e9, rfl⟩ : ∃ e9, d = e9 + 1 := ⟨d - 1, by omega⟩
  unfold mo_freedNow at hf
  show EX Z _ 227 0 [vR 165, vU, vU] [] M res
  refine ex_pu (ls' := [vR 165, vU, vU]) (st' := [vI 0]) (dg dc227 0 rfl) rfl rfl ?_
  refine ex_pu (ls' := [vR 165, vI 0, vU]) (st' := []) (dg dc227 1 rfl) rfl rfl ?_
  refine ex_pu (ls' := [vR 165, vI 0, vU]) (st' := [vI 0]) (dg dc227 2 rfl) rfl rfl ?_
  refine ex_pu (ls' := [vR 165, vI 0, vI 0]) (st' := []) (dg dc227 3 rfl) rfl rfl ?_
  refine mo_freedNow_L4_ok hd  ?_ FU 0 0 M hf
  · intro v1_7 M_8 j0_9 j2_10 hf
    refine ex_pu (ls' := [j0_9, vI v1_7, j2_10]) (st' := [vI v1_7]) (dg dc227 23 rfl) rfl rfl ?_
    exact ex_ire (dg dc227 24 rfl) rfl hf
-- GlassHillModel.now
def il228 : List (Nat × Instr × Nat) := [(0, .lconst 0, 1), (1, .iconst 5, 1), (2, .iconst 4, 1), (3, .aload_n 0, 1), (4, .getfield 13, 3), (7, .bipush 7, 2), (9, .iaload, 1), (10, .invokestatic 283, 3), (13, .lstore_n 1, 1), (14, .lload_n 1, 1), (15, .bipush 9, 2), (17, .iconst 5, 1), (18, .aload_n 0, 1), (19, .getfield 13, 3), (22, .bipush 8, 2), (24, .iaload, 1), (25, .iconst 1, 1), (26, .iadd, 1), (27, .invokestatic 283, 3), (30, .lstore_n 1, 1), (31, .iconst 0, 1), (32, .istore_n 3, 1), (33, .iload_n 3, 1), (34, .aload_n 0, 1), (35, .invokevirtual 84, 3), (38, .if_icmp .ge 21, 3), (41, .lload_n 1, 1), (42, .iload_n 3, 1), (43, .aload_n 0, 1), (44, .iload_n 3, 1), (45, .iconst 2, 1), (46, .invokevirtual 290, 3), (49, .invokestatic 293, 3), (52, .lstore_n 1, 1), (53, .iinc 3 1, 3), (56, .goto (-23), 3), (59, .lload_n 1, 1), (60, .bipush 34, 2), (62, .bipush 10, 2), (64, .aload_n 0, 1), (65, .invokevirtual 297, 3), (68, .invokestatic 283, 3), (71, .lstore_n 1, 1), (72, .lload_n 1, 1), (73, .bipush 44, 2), (75, .bipush 7, 2), (77, .aload_n 0, 1), (78, .invokevirtual 300, 3), (81, .invokestatic 283, 3), (84, .lreturn, 1)]
theorem dc228 : dcs (mC 228) il228 := dc_of (by decide +kernel)
def mo_now_L33  (K1 : Int → MM → OR) : Nat → Int → Int → MM → OR
  | 0, _, _, _ => none
  | n + 1, v1, v3, M => (bI (mo_things  M) fun z_9 M_8 => (bif cmpB .ge v3 z_9 then (K1 v1 M_8) else (bI (mo_ofThing v3 2 M_8) fun z_12 M_11 => (bJ (mo_withState v1 v3 z_12 M_11) fun z_15 M_14 => (mo_now_L33  K1 n z_15 (v3 + 1) M_14)))))
set_option maxRecDepth 4000 in
theorem mo_now_L33_ok {Z : Nat × (Nat → Int)} {d : Nat} (hd : 2 ≤ d)  {K1 : Int → MM → OR} {res : AR × MM} (k1 : ∀ (x1 : Int) (M : MM) (j3 : AV), K1 x1 M = some res → EX Z d 228 59 [vR 165, vJ x1, vU, j3] [] M res) : ∀ (n : Nat) (v1 v3 : Int) (M : MM), mo_now_L33  K1 n v1 v3 M = some res → EX Z d 228 33 [vR 165, vJ v1, vU, vI v3] [] M res := by
  obtain ⟨e9, rfl⟩ : ∃ e9, d = e9 + 1 := ⟨d - 1, by omega⟩
  intro n
  induction n with
  | zero =>
    intro v1 v3 M hf
    unfold mo_now_L33 at hf
    cases hf
  | succ n ih =>
    intro v1 v3 M hf
    unfold mo_now_L33 at hf
    refine ex_pu (ls' := [vR 165, vJ v1, vU, vI v3]) (st' := [vI v3]) (dg dc228 22 rfl) rfl rfl ?_
    refine ex_pu (ls' := [vR 165, vJ v1, vU, vI v3]) (st' := [vR 165, vI v3]) (dg dc228 23 rfl) rfl rfl ?_
    refine ex_cI (vs := [vR 165]) (st' := [vI v3]) (F := (mo_things  M)) (Or.inr (Or.inl ⟨rfl, (dg dc228 24 rfl)⟩)) rfl rfl (rk1 (LOC.st (Nat.le_of_ble_eq_true rfl) rfl) rfl) rfl (fun _ r9 => mo_things_ok (Z := Z) (d := e9) (by omega)  r9) hf (fun z_9 M_8 he_7 hf => ?_)
    refine ex_icmp (t := 59) (dg dc228 25 rfl) rfl hf (fun _ hf => ?_) (fun _ hf => ?_)
    · exact k1 v1 M_8 _ hf
    · refine ex_pu (ls' := [vR 165, vJ v1, vU, vI v3]) (st' := [vJ v1]) (dg dc228 26 rfl) rfl rfl ?_
      refine ex_pu (ls' := [vR 165, vJ v1, vU, vI v3]) (st' := [vI v3, vJ v1]) (dg dc228 27 rfl) rfl rfl ?_
      refine ex_pu (ls' := [vR 165, vJ v1, vU, vI v3]) (st' := [vR 165, vI v3, vJ v1]) (dg dc228 28 rfl) rfl rfl ?_
      refine ex_pu (ls' := [vR 165, vJ v1, vU, vI v3]) (st' := [vI v3, vR 165, vI v3, vJ v1]) (dg dc228 29 rfl) rfl rfl ?_
      refine ex_pu (ls' := [vR 165, vJ v1, vU, vI v3]) (st' := [vI 2, vI v3, vR 165, vI v3, vJ v1]) (dg dc228 30 rfl) rfl rfl ?_
      refine ex_cI (vs := [vR 165, vI v3, vI 2]) (st' := [vI v3, vJ v1]) (F := (mo_ofThing v3 2 M_8)) (Or.inr (Or.inl ⟨rfl, (dg dc228 31 rfl)⟩)) rfl rfl (rk1 (LOC.st (Nat.le_of_ble_eq_true rfl) rfl) rfl) rfl (fun _ r9 => mo_ofThing_ok (Z := Z) (d := e9) (by omega)  r9) hf (fun z_12 M_11 he_10 hf => ?_)
      refine ex_cJ (vs := [vJ v1, vI v3, vI z_12]) (st' := []) (F := (mo_withState v1 v3 z_12 M_11)) (Or.inl ⟨rfl, (dg dc228 32 rfl)⟩) rfl rfl (Or.inl rfl) rfl (fun _ r9 => mo_withState_ok (Z := Z) (d := e9) (by omega)  r9) hf (fun z_15 M_14 he_13 hf => ?_)
      refine ex_pu (ls' := [vR 165, vJ z_15, vU, vI v3]) (st' := []) (dg dc228 33 rfl) rfl rfl ?_
      refine ex_pu (ls' := [vR 165, vJ z_15, vU, vI (v3 + 1)]) (st' := []) (dg dc228 34 rfl) rfl rfl ?_
      refine ex_goto (t := 33) (dg dc228 35 rfl) rfl rfl ?_
      exact ih z_15 (v3 + 1) M_14 hf
def mo_now  (M : MM) : OR :=
  (bif inB 7 1964 then (bJ (mo_with 0 5 4 (M 166 7) M) fun z_3 M_2 => (bif inB 8 1964 then (bJ (mo_with z_3 9 5 ((M_2 166 8) + 1) M_2) fun z_6 M_5 => (mo_now_L33  (fun v1_16 M_17 => (bI (mo_passedNow  M_17) fun z_21 M_20 => (bJ (mo_with v1_16 34 10 z_21 M_20) fun z_24 M_23 => (bI (mo_freedNow  M_23) fun z_27 M_26 => (bJ (mo_with z_24 44 7 z_27 M_26) fun z_30 M_29 => some (rJ z_30, M_29)))))) FU z_6 0 M_5)) else none)) else none)
set_option maxRecDepth 4000 in
theorem mo_now_ok {Z : Nat × (Nat → Int)} {d : Nat} (hd : 2 ≤ d) {M : MM}  {res : AR × MM} (hf : mo_now  M = some res) : EX Z d 228 0 (ent 228 [vR 165]) [] M res := by
  obtain ⟨e9, rfl⟩ : ∃ e9, d = e9 + 1 := ⟨d - 1, by omega⟩
  unfold mo_now at hf
  show EX Z _ 228 0 [vR 165, vU, vU, vU] [] M res
  refine ex_pu (ls' := [vR 165, vU, vU, vU]) (st' := [vJ 0]) (dg dc228 0 rfl) rfl rfl ?_
  refine ex_pu (ls' := [vR 165, vU, vU, vU]) (st' := [vI 5, vJ 0]) (dg dc228 1 rfl) rfl rfl ?_
  refine ex_pu (ls' := [vR 165, vU, vU, vU]) (st' := [vI 4, vI 5, vJ 0]) (dg dc228 2 rfl) rfl rfl ?_
  refine ex_pu (ls' := [vR 165, vU, vU, vU]) (st' := [vR 165, vI 4, vI 5, vJ 0]) (dg dc228 3 rfl) rfl rfl ?_
  refine ex_getO (dg dc228 4 rfl) rfl (LOC.st (Nat.le_of_ble_eq_true rfl) rfl) rfl ?_
  show EX Z _ 228 _ [vR 165, vU, vU, vU] [vR 166, vI 4, vI 5, vJ 0] _ _
  refine ex_pu (ls' := [vR 165, vU, vU, vU]) (st' := [vI 7, vR 166, vI 4, vI 5, vJ 0]) (dg dc228 5 rfl) rfl rfl ?_
  refine ex_iald (dg dc228 6 rfl) (LOC.st (Nat.le_of_ble_eq_true rfl) rfl) rfl hf (fun _ hf => ?_)
  refine ex_cJ (vs := [vJ 0, vI 5, vI 4, vI (M 166 7)]) (st' := []) (F := (mo_with 0 5 4 (M 166 7) M)) (Or.inl ⟨rfl, (dg dc228 7 rfl)⟩) rfl rfl (Or.inl rfl) rfl (fun _ r9 => mo_with_ok (Z := Z) (d := e9) (by omega)  r9) hf (fun z_3 M_2 he_1 hf => ?_)
  refine ex_pu (ls' := [vR 165, vJ z_3, vU, vU]) (st' := []) (dg dc228 8 rfl) rfl rfl ?_
  refine ex_pu (ls' := [vR 165, vJ z_3, vU, vU]) (st' := [vJ z_3]) (dg dc228 9 rfl) rfl rfl ?_
  refine ex_pu (ls' := [vR 165, vJ z_3, vU, vU]) (st' := [vI 9, vJ z_3]) (dg dc228 10 rfl) rfl rfl ?_
  refine ex_pu (ls' := [vR 165, vJ z_3, vU, vU]) (st' := [vI 5, vI 9, vJ z_3]) (dg dc228 11 rfl) rfl rfl ?_
  refine ex_pu (ls' := [vR 165, vJ z_3, vU, vU]) (st' := [vR 165, vI 5, vI 9, vJ z_3]) (dg dc228 12 rfl) rfl rfl ?_
  refine ex_getO (dg dc228 13 rfl) rfl (LOC.st (Nat.le_of_ble_eq_true rfl) rfl) rfl ?_
  show EX Z _ 228 _ [vR 165, vJ z_3, vU, vU] [vR 166, vI 5, vI 9, vJ z_3] _ _
  refine ex_pu (ls' := [vR 165, vJ z_3, vU, vU]) (st' := [vI 8, vR 166, vI 5, vI 9, vJ z_3]) (dg dc228 14 rfl) rfl rfl ?_
  refine ex_iald (dg dc228 15 rfl) (LOC.st (Nat.le_of_ble_eq_true rfl) rfl) rfl hf (fun _ hf => ?_)
  refine ex_pu (ls' := [vR 165, vJ z_3, vU, vU]) (st' := [vI 1, vI (M_2 166 8), vI 5, vI 9, vJ z_3]) (dg dc228 16 rfl) rfl rfl ?_
  refine ex_pu (ls' := [vR 165, vJ z_3, vU, vU]) (st' := [vI ((M_2 166 8) + 1), vI 5, vI 9, vJ z_3]) (dg dc228 17 rfl) rfl rfl ?_
  refine ex_cJ (vs := [vJ z_3, vI 9, vI 5, vI ((M_2 166 8) + 1)]) (st' := []) (F := (mo_with z_3 9 5 ((M_2 166 8) + 1) M_2)) (Or.inl ⟨rfl, (dg dc228 18 rfl)⟩) rfl rfl (Or.inl rfl) rfl (fun _ r9 => mo_with_ok (Z := Z) (d := e9) (by omega)  r9) hf (fun z_6 M_5 he_4 hf => ?_)
  refine ex_pu (ls' := [vR 165, vJ z_6, vU, vU]) (st' := []) (dg dc228 19 rfl) rfl rfl ?_
  refine ex_pu (ls' := [vR 165, vJ z_6, vU, vU]) (st' := [vI 0]) (dg dc228 20 rfl) rfl rfl ?_
  refine ex_pu (ls' := [vR 165, vJ z_6, vU, vI 0]) (st' := []) (dg dc228 21 rfl) rfl rfl ?_
  refine mo_now_L33_ok hd  ?_ FU z_6 0 M_5 hf
  · intro v1_16 M_17 j3_18 hf
    refine ex_pu (ls' := [vR 165, vJ v1_16, vU, j3_18]) (st' := [vJ v1_16]) (dg dc228 36 rfl) rfl rfl ?_
    refine ex_pu (ls' := [vR 165, vJ v1_16, vU, j3_18]) (st' := [vI 34, vJ v1_16]) (dg dc228 37 rfl) rfl rfl ?_
    refine ex_pu (ls' := [vR 165, vJ v1_16, vU, j3_18]) (st' := [vI 10, vI 34, vJ v1_16]) (dg dc228 38 rfl) rfl rfl ?_
    refine ex_pu (ls' := [vR 165, vJ v1_16, vU, j3_18]) (st' := [vR 165, vI 10, vI 34, vJ v1_16]) (dg dc228 39 rfl) rfl rfl ?_
    refine ex_cI (vs := [vR 165]) (st' := [vI 10, vI 34, vJ v1_16]) (F := (mo_passedNow  M_17)) (Or.inr (Or.inl ⟨rfl, (dg dc228 40 rfl)⟩)) rfl rfl (rk1 (LOC.st (Nat.le_of_ble_eq_true rfl) rfl) rfl) rfl (fun _ r9 => mo_passedNow_ok (Z := Z) (d := e9) (by omega)  r9) hf (fun z_21 M_20 he_19 hf => ?_)
    refine ex_cJ (vs := [vJ v1_16, vI 34, vI 10, vI z_21]) (st' := []) (F := (mo_with v1_16 34 10 z_21 M_20)) (Or.inl ⟨rfl, (dg dc228 41 rfl)⟩) rfl rfl (Or.inl rfl) rfl (fun _ r9 => mo_with_ok (Z := Z) (d := e9) (by omega)  r9) hf (fun z_24 M_23 he_22 hf => ?_)
    refine ex_pu (ls' := [vR 165, vJ z_24, vU, j3_18]) (st' := []) (dg dc228 42 rfl) rfl rfl ?_
    refine ex_pu (ls' := [vR 165, vJ z_24, vU, j3_18]) (st' := [vJ z_24]) (dg dc228 43 rfl) rfl rfl ?_
    refine ex_pu (ls' := [vR 165, vJ z_24, vU, j3_18]) (st' := [vI 44, vJ z_24]) (dg dc228 44 rfl) rfl rfl ?_
    refine ex_pu (ls' := [vR 165, vJ z_24, vU, j3_18]) (st' := [vI 7, vI 44, vJ z_24]) (dg dc228 45 rfl) rfl rfl ?_
    refine ex_pu (ls' := [vR 165, vJ z_24, vU, j3_18]) (st' := [vR 165, vI 7, vI 44, vJ z_24]) (dg dc228 46 rfl) rfl rfl ?_
    refine ex_cI (vs := [vR 165]) (st' := [vI 7, vI 44, vJ z_24]) (F := (mo_freedNow  M_23)) (Or.inr (Or.inl ⟨rfl, (dg dc228 47 rfl)⟩)) rfl rfl (rk1 (LOC.st (Nat.le_of_ble_eq_true rfl) rfl) rfl) rfl (fun _ r9 => mo_freedNow_ok (Z := Z) (d := e9) (by omega)  r9) hf (fun z_27 M_26 he_25 hf => ?_)
    refine ex_cJ (vs := [vJ z_24, vI 44, vI 7, vI z_27]) (st' := []) (F := (mo_with z_24 44 7 z_27 M_26)) (Or.inl ⟨rfl, (dg dc228 48 rfl)⟩) rfl rfl (Or.inl rfl) rfl (fun _ r9 => mo_with_ok (Z := Z) (d := e9) (by omega)  r9) hf (fun z_30 M_29 he_28 hf => ?_)
    exact ex_jre (dg dc228 49 rfl) rfl hf
-- GlassHillModel.comes
def il229 : List (Nat × Instr × Nat) := [(0, .aload_n 0, 1), (1, .getfield 13, 3), (4, .bipush 6, 2), (6, .dup2, 1), (7, .iaload, 1), (8, .lload_n 1, 1), (9, .invokestatic 303, 3), (12, .iadd, 1), (13, .iastore, 1), (14, .aload_n 0, 1), (15, .getfield 13, 3), (18, .bipush 7, 2), (20, .lload_n 1, 1), (21, .invokestatic 307, 3), (24, .iastore, 1), (25, .aload_n 0, 1), (26, .getfield 13, 3), (29, .bipush 8, 2), (31, .lload_n 1, 1), (32, .invokestatic 310, 3), (35, .iastore, 1), (36, .iconst 0, 1), (37, .istore_n 3, 1), (38, .iload_n 3, 1), (39, .aload_n 0, 1), (40, .invokevirtual 84, 3), (43, .if_icmp .ge 27, 3), (46, .aload_n 0, 1), (47, .getfield 13, 3), (50, .bipush 90, 2), (52, .iconst 4, 1), (53, .iload_n 3, 1), (54, .imul, 1), (55, .iadd, 1), (56, .iconst 2, 1), (57, .iadd, 1), (58, .lload_n 1, 1), (59, .iload_n 3, 1), (60, .invokestatic 313, 3), (63, .iastore, 1), (64, .iinc 3 1, 3), (67, .goto (-29), 3), (70, .iconst 0, 1), (71, .istore_n 3, 1), (72, .iload_n 3, 1), (73, .aload_n 0, 1), (74, .invokevirtual 76, 3), (77, .if_icmp .ge 24, 3), (80, .aload_n 0, 1), (81, .iload_n 3, 1), (82, .bipush 7, 2), (84, .lload_n 1, 1), (85, .invokestatic 317, 3), (88, .iload_n 3, 1), (89, .ishr, 1), (90, .iconst 1, 1), (91, .iand, 1), (92, .invokevirtual 131, 3), (95, .iinc 3 1, 3), (98, .goto (-26), 3), (101, .iconst 0, 1), (102, .istore_n 3, 1), (103, .iload_n 3, 1), (104, .aload_n 0, 1), (105, .invokevirtual 90, 3), (108, .if_icmp .ge 51, 3), (111, .lload_n 1, 1), (112, .invokestatic 320, 3), (115, .iload_n 3, 1), (116, .invokestatic 323, 3), (119, .ifCond .eq 34, 3), (122, .aload_n 0, 1), (123, .iload_n 3, 1), (124, .iconst 5, 1), (125, .invokevirtual 287, 3), (128, .ifCond .ge 25, 3), (131, .aload_n 0, 1), (132, .getfield 13, 3), (135, .sipush 194, 3), (138, .bipush 6, 2), (140, .iload_n 3, 1), (141, .imul, 1), (142, .iadd, 1), (143, .iconst 5, 1), (144, .iadd, 1), (145, .aload_n 0, 1), (146, .getfield 13, 3), (149, .bipush 6, 2), (151, .iaload, 1), (152, .iastore, 1), (153, .iinc 3 1, 3), (156, .goto (-53), 3), (159, .return_, 1)]
theorem dc229 : dcs (mC 229) il229 := dc_of (by decide +kernel)
def mo_comes_L38  (v1 : Int) (K1 : MM → OR) : Nat → Int → MM → OR
  | 0, _, _ => none
  | n + 1, v3, M => (bI (mo_things  M) fun z_18 M_17 => (bif cmpB .ge v3 z_18 then (K1  M_17) else (bI (mo_stateOf v1 v3 M_17) fun z_21 M_20 => (bif inB ((90 + (4 * v3)) + 2) 1964 then (sM (mU M_20 166 (((90 + (4 * v3)) + 2)).toNat z_21) fun M_22 => (mo_comes_L38 v1 K1 n (v3 + 1) M_22)) else none))))
set_option maxRecDepth 4000 in
theorem mo_comes_L38_ok {Z : Nat × (Nat → Int)} {d : Nat} (hd : 2 ≤ d)  {v1 : Int} {K1 : MM → OR} {res : AR × MM} (k1 : ∀ (M : MM) (j3 : AV), K1  M = some res → EX Z d 229 70 [vR 165, vJ v1, vU, j3] [] M res) : ∀ (n : Nat) (v3 : Int) (M : MM), mo_comes_L38 v1 K1 n v3 M = some res → EX Z d 229 38 [vR 165, vJ v1, vU, vI v3] [] M res := by
  obtain ⟨e9, rfl⟩ : ∃ e9, d = e9 + 1 := ⟨d - 1, by omega⟩
  intro n
  induction n with
  | zero =>
    intro v3 M hf
    unfold mo_comes_L38 at hf
    cases hf
  | succ n ih =>
    intro v3 M hf
    unfold mo_comes_L38 at hf
    refine ex_pu (ls' := [vR 165, vJ v1, vU, vI v3]) (st' := [vI v3]) (dg dc229 23 rfl) rfl rfl ?_
    refine ex_pu (ls' := [vR 165, vJ v1, vU, vI v3]) (st' := [vR 165, vI v3]) (dg dc229 24 rfl) rfl rfl ?_
    refine ex_cI (vs := [vR 165]) (st' := [vI v3]) (F := (mo_things  M)) (Or.inr (Or.inl ⟨rfl, (dg dc229 25 rfl)⟩)) rfl rfl (rk1 (LOC.st (Nat.le_of_ble_eq_true rfl) rfl) rfl) rfl (fun _ r9 => mo_things_ok (Z := Z) (d := e9) (by omega)  r9) hf (fun z_18 M_17 he_16 hf => ?_)
    refine ex_icmp (t := 70) (dg dc229 26 rfl) rfl hf (fun _ hf => ?_) (fun _ hf => ?_)
    · exact k1  M_17 _ hf
    · refine ex_pu (ls' := [vR 165, vJ v1, vU, vI v3]) (st' := [vR 165]) (dg dc229 27 rfl) rfl rfl ?_
      refine ex_getO (dg dc229 28 rfl) rfl (LOC.st (Nat.le_of_ble_eq_true rfl) rfl) rfl ?_
      show EX Z _ 229 _ [vR 165, vJ v1, vU, vI v3] [vR 166] _ _
      refine ex_pu (ls' := [vR 165, vJ v1, vU, vI v3]) (st' := [vI 90, vR 166]) (dg dc229 29 rfl) rfl rfl ?_
      refine ex_pu (ls' := [vR 165, vJ v1, vU, vI v3]) (st' := [vI 4, vI 90, vR 166]) (dg dc229 30 rfl) rfl rfl ?_
      refine ex_pu (ls' := [vR 165, vJ v1, vU, vI v3]) (st' := [vI v3, vI 4, vI 90, vR 166]) (dg dc229 31 rfl) rfl rfl ?_
      refine ex_pu (ls' := [vR 165, vJ v1, vU, vI v3]) (st' := [vI (4 * v3), vI 90, vR 166]) (dg dc229 32 rfl) rfl rfl ?_
      refine ex_pu (ls' := [vR 165, vJ v1, vU, vI v3]) (st' := [vI (90 + (4 * v3)), vR 166]) (dg dc229 33 rfl) rfl rfl ?_
      refine ex_pu (ls' := [vR 165, vJ v1, vU, vI v3]) (st' := [vI 2, vI (90 + (4 * v3)), vR 166]) (dg dc229 34 rfl) rfl rfl ?_
      refine ex_pu (ls' := [vR 165, vJ v1, vU, vI v3]) (st' := [vI ((90 + (4 * v3)) + 2), vR 166]) (dg dc229 35 rfl) rfl rfl ?_
      refine ex_pu (ls' := [vR 165, vJ v1, vU, vI v3]) (st' := [vJ v1, vI ((90 + (4 * v3)) + 2), vR 166]) (dg dc229 36 rfl) rfl rfl ?_
      refine ex_pu (ls' := [vR 165, vJ v1, vU, vI v3]) (st' := [vI v3, vJ v1, vI ((90 + (4 * v3)) + 2), vR 166]) (dg dc229 37 rfl) rfl rfl ?_
      refine ex_cI (vs := [vJ v1, vI v3]) (st' := [vI ((90 + (4 * v3)) + 2), vR 166]) (F := (mo_stateOf v1 v3 M_17)) (Or.inl ⟨rfl, (dg dc229 38 rfl)⟩) rfl rfl (Or.inl rfl) rfl (fun _ r9 => mo_stateOf_ok (Z := Z) (d := e9) (by omega)  r9) hf (fun z_21 M_20 he_19 hf => ?_)
      refine ex_iast (dg dc229 39 rfl) (LOC.st (Nat.le_of_ble_eq_true rfl) rfl) rfl rfl hf (fun _ hf => ?_)
      refine ex_gen hf (fun M_22 hM_23 hf => ?_)
      refine ex_pu (ls' := [vR 165, vJ v1, vU, vI (v3 + 1)]) (st' := []) (dg dc229 40 rfl) rfl rfl ?_
      refine ex_goto (t := 38) (dg dc229 41 rfl) rfl rfl ?_
      exact ih (v3 + 1) M_22 hf
def mo_comes_L72  (v1 : Int) (K1 : MM → OR) : Nat → Int → MM → OR
  | 0, _, _ => none
  | n + 1, v3, M => (bI (mo_places  M) fun z_28 M_27 => (bif cmpB .ge v3 z_28 then (K1  M_27) else (bI (mo_passedIn v1 M_27) fun z_31 M_30 => (bV (mo_sets v3 7 (iAnd (iShr z_31 v3) 1) M_30) fun M_33 => (mo_comes_L72 v1 K1 n (v3 + 1) M_33)))))
set_option maxRecDepth 4000 in
theorem mo_comes_L72_ok {Z : Nat × (Nat → Int)} {d : Nat} (hd : 2 ≤ d)  {v1 : Int} {K1 : MM → OR} {res : AR × MM} (k1 : ∀ (M : MM) (j3 : AV), K1  M = some res → EX Z d 229 101 [vR 165, vJ v1, vU, j3] [] M res) : ∀ (n : Nat) (v3 : Int) (M : MM), mo_comes_L72 v1 K1 n v3 M = some res → EX Z d 229 72 [vR 165, vJ v1, vU, vI v3] [] M res := by
  obtain ⟨e9, rfl⟩ : ∃ e9, d = e9 + 1 := ⟨d - 1, by omega⟩
  intro n
  induction n with
  | zero =>
    intro v3 M hf
    unfold mo_comes_L72 at hf
    cases hf
  | succ n ih =>
    intro v3 M hf
    unfold mo_comes_L72 at hf
    refine ex_pu (ls' := [vR 165, vJ v1, vU, vI v3]) (st' := [vI v3]) (dg dc229 44 rfl) rfl rfl ?_
    refine ex_pu (ls' := [vR 165, vJ v1, vU, vI v3]) (st' := [vR 165, vI v3]) (dg dc229 45 rfl) rfl rfl ?_
    refine ex_cI (vs := [vR 165]) (st' := [vI v3]) (F := (mo_places  M)) (Or.inr (Or.inl ⟨rfl, (dg dc229 46 rfl)⟩)) rfl rfl (rk1 (LOC.st (Nat.le_of_ble_eq_true rfl) rfl) rfl) rfl (fun _ r9 => mo_places_ok (Z := Z) (d := e9) (by omega)  r9) hf (fun z_28 M_27 he_26 hf => ?_)
    refine ex_icmp (t := 101) (dg dc229 47 rfl) rfl hf (fun _ hf => ?_) (fun _ hf => ?_)
    · exact k1  M_27 _ hf
    · refine ex_pu (ls' := [vR 165, vJ v1, vU, vI v3]) (st' := [vR 165]) (dg dc229 48 rfl) rfl rfl ?_
      refine ex_pu (ls' := [vR 165, vJ v1, vU, vI v3]) (st' := [vI v3, vR 165]) (dg dc229 49 rfl) rfl rfl ?_
      refine ex_pu (ls' := [vR 165, vJ v1, vU, vI v3]) (st' := [vI 7, vI v3, vR 165]) (dg dc229 50 rfl) rfl rfl ?_
      refine ex_pu (ls' := [vR 165, vJ v1, vU, vI v3]) (st' := [vJ v1, vI 7, vI v3, vR 165]) (dg dc229 51 rfl) rfl rfl ?_
      refine ex_cI (vs := [vJ v1]) (st' := [vI 7, vI v3, vR 165]) (F := (mo_passedIn v1 M_27)) (Or.inl ⟨rfl, (dg dc229 52 rfl)⟩) rfl rfl (Or.inl rfl) rfl (fun _ r9 => mo_passedIn_ok (Z := Z) (d := e9) (by omega)  r9) hf (fun z_31 M_30 he_29 hf => ?_)
      refine ex_pu (ls' := [vR 165, vJ v1, vU, vI v3]) (st' := [vI v3, vI z_31, vI 7, vI v3, vR 165]) (dg dc229 53 rfl) rfl rfl ?_
      refine ex_pu (ls' := [vR 165, vJ v1, vU, vI v3]) (st' := [vI (iShr z_31 v3), vI 7, vI v3, vR 165]) (dg dc229 54 rfl) rfl rfl ?_
      refine ex_pu (ls' := [vR 165, vJ v1, vU, vI v3]) (st' := [vI 1, vI (iShr z_31 v3), vI 7, vI v3, vR 165]) (dg dc229 55 rfl) rfl rfl ?_
      refine ex_pu (ls' := [vR 165, vJ v1, vU, vI v3]) (st' := [vI (iAnd (iShr z_31 v3) 1), vI 7, vI v3, vR 165]) (dg dc229 56 rfl) rfl rfl ?_
      refine ex_cV (vs := [vR 165, vI v3, vI 7, vI (iAnd (iShr z_31 v3) 1)]) (st' := []) (F := (mo_sets v3 7 (iAnd (iShr z_31 v3) 1) M_30)) (Or.inr (Or.inl ⟨rfl, (dg dc229 57 rfl)⟩)) rfl rfl (rk1 (LOC.st (Nat.le_of_ble_eq_true rfl) rfl) rfl) rfl (fun _ r9 => mo_sets_ok (Z := Z) (d := e9) (by omega)  r9) hf (fun M_33 he_32 hf => ?_)
      refine ex_pu (ls' := [vR 165, vJ v1, vU, vI (v3 + 1)]) (st' := []) (dg dc229 58 rfl) rfl rfl ?_
      refine ex_goto (t := 72) (dg dc229 59 rfl) rfl rfl ?_
      exact ih (v3 + 1) M_33 hf
def mo_comes_L103  (v1 : Int) (K1 : MM → OR) : Nat → Int → MM → OR
  | 0, _, _ => none
  | n + 1, v3, M => (bI (mo_brothers  M) fun z_39 M_38 => (bif cmpB .ge v3 z_39 then (K1  M_38) else (bI (mo_freedIn v1 M_38) fun z_42 M_41 => (bI (mo_has z_42 v3 M_41) fun z_45 M_44 => (bif cmpB .eq z_45 0 then (mo_comes_L103 v1 K1 n (v3 + 1) M_44) else (bI (mo_ofBrother v3 5 M_44) fun z_48 M_47 => (bif cmpB .ge z_48 0 then (mo_comes_L103 v1 K1 n (v3 + 1) M_47) else (bif inB 6 1964 then (bif inB ((194 + (6 * v3)) + 5) 1964 then (sM (mU M_47 166 (((194 + (6 * v3)) + 5)).toNat (M_47 166 6)) fun M_49 => (mo_comes_L103 v1 K1 n (v3 + 1) M_49)) else none) else none))))))))
set_option maxRecDepth 4000 in
theorem mo_comes_L103_ok {Z : Nat × (Nat → Int)} {d : Nat} (hd : 2 ≤ d)  {v1 : Int} {K1 : MM → OR} {res : AR × MM} (k1 : ∀ (M : MM) (j0 j1 j2 j3 : AV), K1  M = some res → EX Z d 229 159 [j0, j1, j2, j3] [] M res) : ∀ (n : Nat) (v3 : Int) (M : MM), mo_comes_L103 v1 K1 n v3 M = some res → EX Z d 229 103 [vR 165, vJ v1, vU, vI v3] [] M res := by
  obtain ⟨e9, rfl⟩ : ∃ e9, d = e9 + 1 := ⟨d - 1, by omega⟩
  intro n
  induction n with
  | zero =>
    intro v3 M hf
    unfold mo_comes_L103 at hf
    cases hf
  | succ n ih =>
    intro v3 M hf
    unfold mo_comes_L103 at hf
    refine ex_pu (ls' := [vR 165, vJ v1, vU, vI v3]) (st' := [vI v3]) (dg dc229 62 rfl) rfl rfl ?_
    refine ex_pu (ls' := [vR 165, vJ v1, vU, vI v3]) (st' := [vR 165, vI v3]) (dg dc229 63 rfl) rfl rfl ?_
    refine ex_cI (vs := [vR 165]) (st' := [vI v3]) (F := (mo_brothers  M)) (Or.inr (Or.inl ⟨rfl, (dg dc229 64 rfl)⟩)) rfl rfl (rk1 (LOC.st (Nat.le_of_ble_eq_true rfl) rfl) rfl) rfl (fun _ r9 => mo_brothers_ok (Z := Z) (d := e9) (by omega)  r9) hf (fun z_39 M_38 he_37 hf => ?_)
    refine ex_icmp (t := 159) (dg dc229 65 rfl) rfl hf (fun _ hf => ?_) (fun _ hf => ?_)
    · exact k1  M_38 _ _ _ _ hf
    · refine ex_pu (ls' := [vR 165, vJ v1, vU, vI v3]) (st' := [vJ v1]) (dg dc229 66 rfl) rfl rfl ?_
      refine ex_cI (vs := [vJ v1]) (st' := []) (F := (mo_freedIn v1 M_38)) (Or.inl ⟨rfl, (dg dc229 67 rfl)⟩) rfl rfl (Or.inl rfl) rfl (fun _ r9 => mo_freedIn_ok (Z := Z) (d := e9) (by omega)  r9) hf (fun z_42 M_41 he_40 hf => ?_)
      refine ex_pu (ls' := [vR 165, vJ v1, vU, vI v3]) (st' := [vI v3, vI z_42]) (dg dc229 68 rfl) rfl rfl ?_
      refine ex_cI (vs := [vI z_42, vI v3]) (st' := []) (F := (mo_has z_42 v3 M_41)) (Or.inl ⟨rfl, (dg dc229 69 rfl)⟩) rfl rfl (Or.inl rfl) rfl (fun _ r9 => mo_has_ok (Z := Z) (d := e9) (by omega)  r9) hf (fun z_45 M_44 he_43 hf => ?_)
      refine ex_if (t := 153) (dg dc229 70 rfl) rfl hf (fun _ hf => ?_) (fun _ hf => ?_)
      · refine ex_pu (ls' := [vR 165, vJ v1, vU, vI (v3 + 1)]) (st' := []) (dg dc229 90 rfl) rfl rfl ?_
        refine ex_goto (t := 103) (dg dc229 91 rfl) rfl rfl ?_
        exact ih (v3 + 1) M_44 hf
      · refine ex_pu (ls' := [vR 165, vJ v1, vU, vI v3]) (st' := [vR 165]) (dg dc229 71 rfl) rfl rfl ?_
        refine ex_pu (ls' := [vR 165, vJ v1, vU, vI v3]) (st' := [vI v3, vR 165]) (dg dc229 72 rfl) rfl rfl ?_
        refine ex_pu (ls' := [vR 165, vJ v1, vU, vI v3]) (st' := [vI 5, vI v3, vR 165]) (dg dc229 73 rfl) rfl rfl ?_
        refine ex_cI (vs := [vR 165, vI v3, vI 5]) (st' := []) (F := (mo_ofBrother v3 5 M_44)) (Or.inr (Or.inl ⟨rfl, (dg dc229 74 rfl)⟩)) rfl rfl (rk1 (LOC.st (Nat.le_of_ble_eq_true rfl) rfl) rfl) rfl (fun _ r9 => mo_ofBrother_ok (Z := Z) (d := e9) (by omega)  r9) hf (fun z_48 M_47 he_46 hf => ?_)
        refine ex_if (t := 153) (dg dc229 75 rfl) rfl hf (fun _ hf => ?_) (fun _ hf => ?_)
        · refine ex_pu (ls' := [vR 165, vJ v1, vU, vI (v3 + 1)]) (st' := []) (dg dc229 90 rfl) rfl rfl ?_
          refine ex_goto (t := 103) (dg dc229 91 rfl) rfl rfl ?_
          exact ih (v3 + 1) M_47 hf
        · refine ex_pu (ls' := [vR 165, vJ v1, vU, vI v3]) (st' := [vR 165]) (dg dc229 76 rfl) rfl rfl ?_
          refine ex_getO (dg dc229 77 rfl) rfl (LOC.st (Nat.le_of_ble_eq_true rfl) rfl) rfl ?_
          show EX Z _ 229 _ [vR 165, vJ v1, vU, vI v3] [vR 166] _ _
          refine ex_pu (ls' := [vR 165, vJ v1, vU, vI v3]) (st' := [vI 194, vR 166]) (dg dc229 78 rfl) rfl rfl ?_
          refine ex_pu (ls' := [vR 165, vJ v1, vU, vI v3]) (st' := [vI 6, vI 194, vR 166]) (dg dc229 79 rfl) rfl rfl ?_
          refine ex_pu (ls' := [vR 165, vJ v1, vU, vI v3]) (st' := [vI v3, vI 6, vI 194, vR 166]) (dg dc229 80 rfl) rfl rfl ?_
          refine ex_pu (ls' := [vR 165, vJ v1, vU, vI v3]) (st' := [vI (6 * v3), vI 194, vR 166]) (dg dc229 81 rfl) rfl rfl ?_
          refine ex_pu (ls' := [vR 165, vJ v1, vU, vI v3]) (st' := [vI (194 + (6 * v3)), vR 166]) (dg dc229 82 rfl) rfl rfl ?_
          refine ex_pu (ls' := [vR 165, vJ v1, vU, vI v3]) (st' := [vI 5, vI (194 + (6 * v3)), vR 166]) (dg dc229 83 rfl) rfl rfl ?_
          refine ex_pu (ls' := [vR 165, vJ v1, vU, vI v3]) (st' := [vI ((194 + (6 * v3)) + 5), vR 166]) (dg dc229 84 rfl) rfl rfl ?_
          refine ex_pu (ls' := [vR 165, vJ v1, vU, vI v3]) (st' := [vR 165, vI ((194 + (6 * v3)) + 5), vR 166]) (dg dc229 85 rfl) rfl rfl ?_
          refine ex_getO (dg dc229 86 rfl) rfl (LOC.st (Nat.le_of_ble_eq_true rfl) rfl) rfl ?_
          show EX Z _ 229 _ [vR 165, vJ v1, vU, vI v3] [vR 166, vI ((194 + (6 * v3)) + 5), vR 166] _ _
          refine ex_pu (ls' := [vR 165, vJ v1, vU, vI v3]) (st' := [vI 6, vR 166, vI ((194 + (6 * v3)) + 5), vR 166]) (dg dc229 87 rfl) rfl rfl ?_
          refine ex_iald (dg dc229 88 rfl) (LOC.st (Nat.le_of_ble_eq_true rfl) rfl) rfl hf (fun _ hf => ?_)
          refine ex_iast (dg dc229 89 rfl) (LOC.st (Nat.le_of_ble_eq_true rfl) rfl) rfl rfl hf (fun _ hf => ?_)
          refine ex_gen hf (fun M_49 hM_50 hf => ?_)
          refine ex_pu (ls' := [vR 165, vJ v1, vU, vI (v3 + 1)]) (st' := []) (dg dc229 90 rfl) rfl rfl ?_
          refine ex_goto (t := 103) (dg dc229 91 rfl) rfl rfl ?_
          exact ih (v3 + 1) M_49 hf
def mo_comes (v1 : Int) (M : MM) : OR :=
  (bif inB 6 1964 then (bI (mo_hoursOf v1 M) fun z_3 M_2 => (bif inB 6 1964 then (sM (mU M_2 166 6 ((M 166 6) + z_3)) fun M_4 => (bI (mo_placeOf v1 M_4) fun z_8 M_7 => (bif inB 7 1964 then (sM (mU M_7 166 7 z_8) fun M_9 => (bI (mo_roadOf v1 M_9) fun z_13 M_12 => (bif inB 8 1964 then (sM (mU M_12 166 8 z_13) fun M_14 => (mo_comes_L38 v1 (fun M_24 => (mo_comes_L72 v1 (fun M_35 => (mo_comes_L103 v1 (fun M_51 => some (rV, M_51)) FU 0 M_35)) FU 0 M_24)) FU 0 M_14)) else none))) else none))) else none)) else none)
set_option maxRecDepth 4000 in
theorem mo_comes_ok {Z : Nat × (Nat → Int)} {d : Nat} (hd : 2 ≤ d) {M : MM}  {v1 : Int} {res : AR × MM} (hf : mo_comes v1 M = some res) : EX Z d 229 0 (ent 229 [vR 165, vJ v1]) [] M res := by
  obtain ⟨e9, rfl⟩ : ∃ e9, d = e9 + 1 := ⟨d - 1, by omega⟩
  unfold mo_comes at hf
  show EX Z _ 229 0 [vR 165, vJ v1, vU, vU] [] M res
  refine ex_pu (ls' := [vR 165, vJ v1, vU, vU]) (st' := [vR 165]) (dg dc229 0 rfl) rfl rfl ?_
  refine ex_getO (dg dc229 1 rfl) rfl (LOC.st (Nat.le_of_ble_eq_true rfl) rfl) rfl ?_
  show EX Z _ 229 _ [vR 165, vJ v1, vU, vU] [vR 166] _ _
  refine ex_pu (ls' := [vR 165, vJ v1, vU, vU]) (st' := [vI 6, vR 166]) (dg dc229 2 rfl) rfl rfl ?_
  refine ex_pu (ls' := [vR 165, vJ v1, vU, vU]) (st' := [vI 6, vR 166, vI 6, vR 166]) (dg dc229 3 rfl) rfl rfl ?_
  refine ex_iald (dg dc229 4 rfl) (LOC.st (Nat.le_of_ble_eq_true rfl) rfl) rfl hf (fun _ hf => ?_)
  refine ex_pu (ls' := [vR 165, vJ v1, vU, vU]) (st' := [vJ v1, vI (M 166 6), vI 6, vR 166]) (dg dc229 5 rfl) rfl rfl ?_
  refine ex_cI (vs := [vJ v1]) (st' := [vI (M 166 6), vI 6, vR 166]) (F := (mo_hoursOf v1 M)) (Or.inl ⟨rfl, (dg dc229 6 rfl)⟩) rfl rfl (Or.inl rfl) rfl (fun _ r9 => mo_hoursOf_ok (Z := Z) (d := e9) (by omega)  r9) hf (fun z_3 M_2 he_1 hf => ?_)
  refine ex_pu (ls' := [vR 165, vJ v1, vU, vU]) (st' := [vI ((M 166 6) + z_3), vI 6, vR 166]) (dg dc229 7 rfl) rfl rfl ?_
  refine ex_iast (dg dc229 8 rfl) (LOC.st (Nat.le_of_ble_eq_true rfl) rfl) rfl rfl hf (fun _ hf => ?_)
  refine ex_gen hf (fun M_4 hM_5 hf => ?_)
  refine ex_pu (ls' := [vR 165, vJ v1, vU, vU]) (st' := [vR 165]) (dg dc229 9 rfl) rfl rfl ?_
  refine ex_getO (dg dc229 10 rfl) rfl (LOC.st (Nat.le_of_ble_eq_true rfl) rfl) rfl ?_
  show EX Z _ 229 _ [vR 165, vJ v1, vU, vU] [vR 166] _ _
  refine ex_pu (ls' := [vR 165, vJ v1, vU, vU]) (st' := [vI 7, vR 166]) (dg dc229 11 rfl) rfl rfl ?_
  refine ex_pu (ls' := [vR 165, vJ v1, vU, vU]) (st' := [vJ v1, vI 7, vR 166]) (dg dc229 12 rfl) rfl rfl ?_
  refine ex_cI (vs := [vJ v1]) (st' := [vI 7, vR 166]) (F := (mo_placeOf v1 M_4)) (Or.inl ⟨rfl, (dg dc229 13 rfl)⟩) rfl rfl (Or.inl rfl) rfl (fun _ r9 => mo_placeOf_ok (Z := Z) (d := e9) (by omega)  r9) hf (fun z_8 M_7 he_6 hf => ?_)
  refine ex_iast (dg dc229 14 rfl) (LOC.st (Nat.le_of_ble_eq_true rfl) rfl) rfl rfl hf (fun _ hf => ?_)
  refine ex_gen hf (fun M_9 hM_10 hf => ?_)
  refine ex_pu (ls' := [vR 165, vJ v1, vU, vU]) (st' := [vR 165]) (dg dc229 15 rfl) rfl rfl ?_
  refine ex_getO (dg dc229 16 rfl) rfl (LOC.st (Nat.le_of_ble_eq_true rfl) rfl) rfl ?_
  show EX Z _ 229 _ [vR 165, vJ v1, vU, vU] [vR 166] _ _
  refine ex_pu (ls' := [vR 165, vJ v1, vU, vU]) (st' := [vI 8, vR 166]) (dg dc229 17 rfl) rfl rfl ?_
  refine ex_pu (ls' := [vR 165, vJ v1, vU, vU]) (st' := [vJ v1, vI 8, vR 166]) (dg dc229 18 rfl) rfl rfl ?_
  refine ex_cI (vs := [vJ v1]) (st' := [vI 8, vR 166]) (F := (mo_roadOf v1 M_9)) (Or.inl ⟨rfl, (dg dc229 19 rfl)⟩) rfl rfl (Or.inl rfl) rfl (fun _ r9 => mo_roadOf_ok (Z := Z) (d := e9) (by omega)  r9) hf (fun z_13 M_12 he_11 hf => ?_)
  refine ex_iast (dg dc229 20 rfl) (LOC.st (Nat.le_of_ble_eq_true rfl) rfl) rfl rfl hf (fun _ hf => ?_)
  refine ex_gen hf (fun M_14 hM_15 hf => ?_)
  refine ex_pu (ls' := [vR 165, vJ v1, vU, vU]) (st' := [vI 0]) (dg dc229 21 rfl) rfl rfl ?_
  refine ex_pu (ls' := [vR 165, vJ v1, vU, vI 0]) (st' := []) (dg dc229 22 rfl) rfl rfl ?_
  refine mo_comes_L38_ok hd  ?_ FU 0 M_14 hf
  · intro M_24 j3_25 hf
    refine ex_pu (ls' := [vR 165, vJ v1, vU, j3_25]) (st' := [vI 0]) (dg dc229 42 rfl) rfl rfl ?_
    refine ex_pu (ls' := [vR 165, vJ v1, vU, vI 0]) (st' := []) (dg dc229 43 rfl) rfl rfl ?_
    refine mo_comes_L72_ok hd  ?_ FU 0 M_24 hf
    · intro M_35 j3_36 hf
      refine ex_pu (ls' := [vR 165, vJ v1, vU, j3_36]) (st' := [vI 0]) (dg dc229 60 rfl) rfl rfl ?_
      refine ex_pu (ls' := [vR 165, vJ v1, vU, vI 0]) (st' := []) (dg dc229 61 rfl) rfl rfl ?_
      refine mo_comes_L103_ok hd  ?_ FU 0 M_35 hf
      · intro M_51 j0_52 j1_53 j2_54 j3_55 hf
        exact ex_vre (dg dc229 92 rfl) rfl hf
-- GlassHillModel.thingsIn
def il230 : List (Nat × Instr × Nat) := [(0, .iconst 0, 1), (1, .istore 4, 2), (3, .iconst 0, 1), (4, .istore 5, 2), (6, .iload 5, 2), (8, .aload_n 0, 1), (9, .invokevirtual 84, 3), (12, .if_icmp .ge 32, 3), (15, .iload 4, 2), (17, .lload_n 1, 1), (18, .iload 5, 2), (20, .invokestatic 313, 3), (23, .iload_n 3, 1), (24, .if_icmp .ne 10, 3), (27, .iconst 1, 1), (28, .iload 5, 2), (30, .ishl, 1), (31, .goto 4, 3), (34, .iconst 0, 1), (35, .ior, 1), (36, .istore 4, 2), (38, .iinc 5 1, 3), (41, .goto (-35), 3), (44, .iload 4, 2), (46, .ireturn, 1)]
theorem dc230 : dcs (mC 230) il230 := dc_of (by decide +kernel)
def mo_thingsIn_L6  (v1 v3 : Int) (K1 : Int → MM → OR) : Nat → Int → Int → MM → OR
  | 0, _, _, _ => none
  | n + 1, v4, v5, M => (bI (mo_things  M) fun z_3 M_2 => (bif cmpB .ge v5 z_3 then (K1 v4 M_2) else (bI (mo_stateOf v1 v5 M_2) fun z_6 M_5 => (bif cmpB .ne z_6 v3 then (mo_thingsIn_L6 v1 v3 K1 n (iOr v4 0) (v5 + 1) M_5) else (mo_thingsIn_L6 v1 v3 K1 n (iOr v4 (iShl 1 v5)) (v5 + 1) M_5)))))
set_option maxRecDepth 4000 in
theorem mo_thingsIn_L6_ok {Z : Nat × (Nat → Int)} {d : Nat} (hd : 2 ≤ d)  {v1 v3 : Int} {K1 : Int → MM → OR} {res : AR × MM} (k1 : ∀ (x4 : Int) (M : MM) (j0 j1 j2 j3 j5 : AV), K1 x4 M = some res → EX Z d 230 44 [j0, j1, j2, j3, vI x4, j5] [] M res) : ∀ (n : Nat) (v4 v5 : Int) (M : MM), mo_thingsIn_L6 v1 v3 K1 n v4 v5 M = some res → EX Z d 230 6 [vR 165, vJ v1, vU, vI v3, vI v4, vI v5] [] M res := by
  obtain ⟨e9, rfl⟩ : ∃ e9, d = e9 + 1 := ⟨d - 1, by omega⟩
  intro n
  induction n with
  | zero =>
    intro v4 v5 M hf
    unfold mo_thingsIn_L6 at hf
    cases hf
  | succ n ih =>
    intro v4 v5 M hf
    unfold mo_thingsIn_L6 at hf
    refine ex_pu (ls' := [vR 165, vJ v1, vU, vI v3, vI v4, vI v5]) (st' := [vI v5]) (dg dc230 4 rfl) rfl rfl ?_
    refine ex_pu (ls' := [vR 165, vJ v1, vU, vI v3, vI v4, vI v5]) (st' := [vR 165, vI v5]) (dg dc230 5 rfl) rfl rfl ?_
    refine ex_cI (vs := [vR 165]) (st' := [vI v5]) (F := (mo_things  M)) (Or.inr (Or.inl ⟨rfl, (dg dc230 6 rfl)⟩)) rfl rfl (rk1 (LOC.st (Nat.le_of_ble_eq_true rfl) rfl) rfl) rfl (fun _ r9 => mo_things_ok (Z := Z) (d := e9) (by omega)  r9) hf (fun z_3 M_2 he_1 hf => ?_)
    refine ex_icmp (t := 44) (dg dc230 7 rfl) rfl hf (fun _ hf => ?_) (fun _ hf => ?_)
    · exact k1 v4 M_2 _ _ _ _ _ hf
    · refine ex_pu (ls' := [vR 165, vJ v1, vU, vI v3, vI v4, vI v5]) (st' := [vI v4]) (dg dc230 8 rfl) rfl rfl ?_
      refine ex_pu (ls' := [vR 165, vJ v1, vU, vI v3, vI v4, vI v5]) (st' := [vJ v1, vI v4]) (dg dc230 9 rfl) rfl rfl ?_
      refine ex_pu (ls' := [vR 165, vJ v1, vU, vI v3, vI v4, vI v5]) (st' := [vI v5, vJ v1, vI v4]) (dg dc230 10 rfl) rfl rfl ?_
      refine ex_cI (vs := [vJ v1, vI v5]) (st' := [vI v4]) (F := (mo_stateOf v1 v5 M_2)) (Or.inl ⟨rfl, (dg dc230 11 rfl)⟩) rfl rfl (Or.inl rfl) rfl (fun _ r9 => mo_stateOf_ok (Z := Z) (d := e9) (by omega)  r9) hf (fun z_6 M_5 he_4 hf => ?_)
      refine ex_pu (ls' := [vR 165, vJ v1, vU, vI v3, vI v4, vI v5]) (st' := [vI v3, vI z_6, vI v4]) (dg dc230 12 rfl) rfl rfl ?_
      refine ex_icmp (t := 34) (dg dc230 13 rfl) rfl hf (fun _ hf => ?_) (fun _ hf => ?_)
      · refine ex_pu (ls' := [vR 165, vJ v1, vU, vI v3, vI v4, vI v5]) (st' := [vI 0, vI v4]) (dg dc230 18 rfl) rfl rfl ?_
        refine ex_pu (ls' := [vR 165, vJ v1, vU, vI v3, vI v4, vI v5]) (st' := [vI (iOr v4 0)]) (dg dc230 19 rfl) rfl rfl ?_
        refine ex_pu (ls' := [vR 165, vJ v1, vU, vI v3, vI (iOr v4 0), vI v5]) (st' := []) (dg dc230 20 rfl) rfl rfl ?_
        refine ex_pu (ls' := [vR 165, vJ v1, vU, vI v3, vI (iOr v4 0), vI (v5 + 1)]) (st' := []) (dg dc230 21 rfl) rfl rfl ?_
        refine ex_goto (t := 6) (dg dc230 22 rfl) rfl rfl ?_
        exact ih (iOr v4 0) (v5 + 1) M_5 hf
      · refine ex_pu (ls' := [vR 165, vJ v1, vU, vI v3, vI v4, vI v5]) (st' := [vI 1, vI v4]) (dg dc230 14 rfl) rfl rfl ?_
        refine ex_pu (ls' := [vR 165, vJ v1, vU, vI v3, vI v4, vI v5]) (st' := [vI v5, vI 1, vI v4]) (dg dc230 15 rfl) rfl rfl ?_
        refine ex_pu (ls' := [vR 165, vJ v1, vU, vI v3, vI v4, vI v5]) (st' := [vI (iShl 1 v5), vI v4]) (dg dc230 16 rfl) rfl rfl ?_
        refine ex_goto (t := 35) (dg dc230 17 rfl) rfl rfl ?_
        refine ex_pu (ls' := [vR 165, vJ v1, vU, vI v3, vI v4, vI v5]) (st' := [vI (iOr v4 (iShl 1 v5))]) (dg dc230 19 rfl) rfl rfl ?_
        refine ex_pu (ls' := [vR 165, vJ v1, vU, vI v3, vI (iOr v4 (iShl 1 v5)), vI v5]) (st' := []) (dg dc230 20 rfl) rfl rfl ?_
        refine ex_pu (ls' := [vR 165, vJ v1, vU, vI v3, vI (iOr v4 (iShl 1 v5)), vI (v5 + 1)]) (st' := []) (dg dc230 21 rfl) rfl rfl ?_
        refine ex_goto (t := 6) (dg dc230 22 rfl) rfl rfl ?_
        exact ih (iOr v4 (iShl 1 v5)) (v5 + 1) M_5 hf
def mo_thingsIn (v1 : Int) (v3 : Int) (M : MM) : OR :=
  (mo_thingsIn_L6 v1 v3 (fun v4_7 M_8 => some (rI v4_7, M_8)) FU 0 0 M)
set_option maxRecDepth 4000 in
theorem mo_thingsIn_ok {Z : Nat × (Nat → Int)} {d : Nat} (hd : 2 ≤ d) {M : MM}  {v1 v3 : Int} {res : AR × MM} (hf : mo_thingsIn v1 v3 M = some res) : EX Z d 230 0 (ent 230 [vR 165, vJ v1, vI v3]) [] M res := by
  obtain ⟨e9, rfl⟩ : ∃ e9, d = e9 + 1 := ⟨d - 1, by omega⟩
  unfold mo_thingsIn at hf
  show EX Z _ 230 0 [vR 165, vJ v1, vU, vI v3, vU, vU] [] M res
  refine ex_pu (ls' := [vR 165, vJ v1, vU, vI v3, vU, vU]) (st' := [vI 0]) (dg dc230 0 rfl) rfl rfl ?_
  refine ex_pu (ls' := [vR 165, vJ v1, vU, vI v3, vI 0, vU]) (st' := []) (dg dc230 1 rfl) rfl rfl ?_
  refine ex_pu (ls' := [vR 165, vJ v1, vU, vI v3, vI 0, vU]) (st' := [vI 0]) (dg dc230 2 rfl) rfl rfl ?_
  refine ex_pu (ls' := [vR 165, vJ v1, vU, vI v3, vI 0, vI 0]) (st' := []) (dg dc230 3 rfl) rfl rfl ?_
  refine mo_thingsIn_L6_ok hd  ?_ FU 0 0 M hf
  · intro v4_7 M_8 j0_9 j1_10 j2_11 j3_12 j5_13 hf
    refine ex_pu (ls' := [j0_9, j1_10, j2_11, j3_12, vI v4_7, j5_13]) (st' := [vI v4_7]) (dg dc230 23 rfl) rfl rfl ?_
    exact ex_ire (dg dc230 24 rfl) rfl hf
-- GlassHillModel.worthOf
def il231 : List (Nat × Instr × Nat) := [(0, .iconst 0, 1), (1, .istore_n 2, 1), (2, .iconst 0, 1), (3, .istore_n 3, 1), (4, .iload_n 3, 1), (5, .aload_n 0, 1), (6, .invokevirtual 84, 3), (9, .if_icmp .ge 30, 3), (12, .iload_n 2, 1), (13, .iload_n 1, 1), (14, .iload_n 3, 1), (15, .invokestatic 323, 3), (18, .ifCond .eq 12, 3), (21, .aload_n 0, 1), (22, .iload_n 3, 1), (23, .iconst 1, 1), (24, .invokevirtual 290, 3), (27, .goto 4, 3), (30, .iconst 0, 1), (31, .iadd, 1), (32, .istore_n 2, 1), (33, .iinc 3 1, 3), (36, .goto (-32), 3), (39, .iload_n 2, 1), (40, .ireturn, 1)]
theorem dc231 : dcs (mC 231) il231 := dc_of (by decide +kernel)
def mo_worthOf_L4  (v1 : Int) (K1 : Int → MM → OR) : Nat → Int → Int → MM → OR
  | 0, _, _, _ => none
  | n + 1, v2, v3, M => (bI (mo_things  M) fun z_3 M_2 => (bif cmpB .ge v3 z_3 then (K1 v2 M_2) else (bI (mo_has v1 v3 M_2) fun z_6 M_5 => (bif cmpB .eq z_6 0 then (mo_worthOf_L4 v1 K1 n (v2 + 0) (v3 + 1) M_5) else (bI (mo_ofThing v3 1 M_5) fun z_9 M_8 => (mo_worthOf_L4 v1 K1 n (v2 + z_9) (v3 + 1) M_8))))))
set_option maxRecDepth 4000 in
theorem mo_worthOf_L4_ok {Z : Nat × (Nat → Int)} {d : Nat} (hd : 1 ≤ d)  {v1 : Int} {K1 : Int → MM → OR} {res : AR × MM} (k1 : ∀ (x2 : Int) (M : MM) (j0 j1 j3 : AV), K1 x2 M = some res → EX Z d 231 39 [j0, j1, vI x2, j3] [] M res) : ∀ (n : Nat) (v2 v3 : Int) (M : MM), mo_worthOf_L4 v1 K1 n v2 v3 M = some res → EX Z d 231 4 [vR 165, vI v1, vI v2, vI v3] [] M res := by
  obtain ⟨e9, rfl⟩ : ∃ e9, d = e9 + 1 := ⟨d - 1, by omega⟩
  intro n
  induction n with
  | zero =>
    intro v2 v3 M hf
    unfold mo_worthOf_L4 at hf
    cases hf
  | succ n ih =>
    intro v2 v3 M hf
    unfold mo_worthOf_L4 at hf
    refine ex_pu (ls' := [vR 165, vI v1, vI v2, vI v3]) (st' := [vI v3]) (dg dc231 4 rfl) rfl rfl ?_
    refine ex_pu (ls' := [vR 165, vI v1, vI v2, vI v3]) (st' := [vR 165, vI v3]) (dg dc231 5 rfl) rfl rfl ?_
    refine ex_cI (vs := [vR 165]) (st' := [vI v3]) (F := (mo_things  M)) (Or.inr (Or.inl ⟨rfl, (dg dc231 6 rfl)⟩)) rfl rfl (rk1 (LOC.st (Nat.le_of_ble_eq_true rfl) rfl) rfl) rfl (fun _ r9 => mo_things_ok (Z := Z) (d := e9) (by omega)  r9) hf (fun z_3 M_2 he_1 hf => ?_)
    refine ex_icmp (t := 39) (dg dc231 7 rfl) rfl hf (fun _ hf => ?_) (fun _ hf => ?_)
    · exact k1 v2 M_2 _ _ _ hf
    · refine ex_pu (ls' := [vR 165, vI v1, vI v2, vI v3]) (st' := [vI v2]) (dg dc231 8 rfl) rfl rfl ?_
      refine ex_pu (ls' := [vR 165, vI v1, vI v2, vI v3]) (st' := [vI v1, vI v2]) (dg dc231 9 rfl) rfl rfl ?_
      refine ex_pu (ls' := [vR 165, vI v1, vI v2, vI v3]) (st' := [vI v3, vI v1, vI v2]) (dg dc231 10 rfl) rfl rfl ?_
      refine ex_cI (vs := [vI v1, vI v3]) (st' := [vI v2]) (F := (mo_has v1 v3 M_2)) (Or.inl ⟨rfl, (dg dc231 11 rfl)⟩) rfl rfl (Or.inl rfl) rfl (fun _ r9 => mo_has_ok (Z := Z) (d := e9) (by omega)  r9) hf (fun z_6 M_5 he_4 hf => ?_)
      refine ex_if (t := 30) (dg dc231 12 rfl) rfl hf (fun _ hf => ?_) (fun _ hf => ?_)
      · refine ex_pu (ls' := [vR 165, vI v1, vI v2, vI v3]) (st' := [vI 0, vI v2]) (dg dc231 18 rfl) rfl rfl ?_
        refine ex_pu (ls' := [vR 165, vI v1, vI v2, vI v3]) (st' := [vI (v2 + 0)]) (dg dc231 19 rfl) rfl rfl ?_
        refine ex_pu (ls' := [vR 165, vI v1, vI (v2 + 0), vI v3]) (st' := []) (dg dc231 20 rfl) rfl rfl ?_
        refine ex_pu (ls' := [vR 165, vI v1, vI (v2 + 0), vI (v3 + 1)]) (st' := []) (dg dc231 21 rfl) rfl rfl ?_
        refine ex_goto (t := 4) (dg dc231 22 rfl) rfl rfl ?_
        exact ih (v2 + 0) (v3 + 1) M_5 hf
      · refine ex_pu (ls' := [vR 165, vI v1, vI v2, vI v3]) (st' := [vR 165, vI v2]) (dg dc231 13 rfl) rfl rfl ?_
        refine ex_pu (ls' := [vR 165, vI v1, vI v2, vI v3]) (st' := [vI v3, vR 165, vI v2]) (dg dc231 14 rfl) rfl rfl ?_
        refine ex_pu (ls' := [vR 165, vI v1, vI v2, vI v3]) (st' := [vI 1, vI v3, vR 165, vI v2]) (dg dc231 15 rfl) rfl rfl ?_
        refine ex_cI (vs := [vR 165, vI v3, vI 1]) (st' := [vI v2]) (F := (mo_ofThing v3 1 M_5)) (Or.inr (Or.inl ⟨rfl, (dg dc231 16 rfl)⟩)) rfl rfl (rk1 (LOC.st (Nat.le_of_ble_eq_true rfl) rfl) rfl) rfl (fun _ r9 => mo_ofThing_ok (Z := Z) (d := e9) (by omega)  r9) hf (fun z_9 M_8 he_7 hf => ?_)
        refine ex_goto (t := 31) (dg dc231 17 rfl) rfl rfl ?_
        refine ex_pu (ls' := [vR 165, vI v1, vI v2, vI v3]) (st' := [vI (v2 + z_9)]) (dg dc231 19 rfl) rfl rfl ?_
        refine ex_pu (ls' := [vR 165, vI v1, vI (v2 + z_9), vI v3]) (st' := []) (dg dc231 20 rfl) rfl rfl ?_
        refine ex_pu (ls' := [vR 165, vI v1, vI (v2 + z_9), vI (v3 + 1)]) (st' := []) (dg dc231 21 rfl) rfl rfl ?_
        refine ex_goto (t := 4) (dg dc231 22 rfl) rfl rfl ?_
        exact ih (v2 + z_9) (v3 + 1) M_8 hf
def mo_worthOf (v1 : Int) (M : MM) : OR :=
  (mo_worthOf_L4 v1 (fun v2_10 M_11 => some (rI v2_10, M_11)) FU 0 0 M)
set_option maxRecDepth 4000 in
theorem mo_worthOf_ok {Z : Nat × (Nat → Int)} {d : Nat} (hd : 1 ≤ d) {M : MM}  {v1 : Int} {res : AR × MM} (hf : mo_worthOf v1 M = some res) : EX Z d 231 0 (ent 231 [vR 165, vI v1]) [] M res := by
  obtain ⟨e9, rfl⟩ : ∃ e9, d = e9 + 1 := ⟨d - 1, by omega⟩
  unfold mo_worthOf at hf
  show EX Z _ 231 0 [vR 165, vI v1, vU, vU] [] M res
  refine ex_pu (ls' := [vR 165, vI v1, vU, vU]) (st' := [vI 0]) (dg dc231 0 rfl) rfl rfl ?_
  refine ex_pu (ls' := [vR 165, vI v1, vI 0, vU]) (st' := []) (dg dc231 1 rfl) rfl rfl ?_
  refine ex_pu (ls' := [vR 165, vI v1, vI 0, vU]) (st' := [vI 0]) (dg dc231 2 rfl) rfl rfl ?_
  refine ex_pu (ls' := [vR 165, vI v1, vI 0, vI 0]) (st' := []) (dg dc231 3 rfl) rfl rfl ?_
  refine mo_worthOf_L4_ok hd  ?_ FU 0 0 M hf
  · intro v2_10 M_11 j0_12 j1_13 j3_14 hf
    refine ex_pu (ls' := [j0_12, j1_13, vI v2_10, j3_14]) (st' := [vI v2_10]) (dg dc231 23 rfl) rfl rfl ?_
    exact ex_ire (dg dc231 24 rfl) rfl hf
-- GlassHillModel.isFit
def il232 : List (Nat × Instr × Nat) := [(0, .iload_n 0, 1), (1, .iload_n 1, 1), (2, .iand, 1), (3, .iload_n 2, 1), (4, .if_icmp .ne 7, 3), (7, .iconst 1, 1), (8, .goto 4, 3), (11, .iconst 0, 1), (12, .ireturn, 1)]
theorem dc232 : dcs (mC 232) il232 := dc_of (by decide +kernel)
def mo_isFit (v0 : Int) (v1 : Int) (v2 : Int) (M : MM) : OR :=
  (bif cmpB .ne (iAnd v0 v1) v2 then some (rI 0, M) else some (rI 1, M))
set_option maxRecDepth 4000 in
theorem mo_isFit_ok {Z : Nat × (Nat → Int)} {d : Nat} (hd : 0 ≤ d) {M : MM}  {v0 v1 v2 : Int} {res : AR × MM} (hf : mo_isFit v0 v1 v2 M = some res) : EX Z d 232 0 (ent 232 [vI v0, vI v1, vI v2]) [] M res := by
  unfold mo_isFit at hf
  show EX Z _ 232 0 [vI v0, vI v1, vI v2] [] M res
  refine ex_pu (ls' := [vI v0, vI v1, vI v2]) (st' := [vI v0]) (dg dc232 0 rfl) rfl rfl ?_
  refine ex_pu (ls' := [vI v0, vI v1, vI v2]) (st' := [vI v1, vI v0]) (dg dc232 1 rfl) rfl rfl ?_
  refine ex_pu (ls' := [vI v0, vI v1, vI v2]) (st' := [vI (iAnd v0 v1)]) (dg dc232 2 rfl) rfl rfl ?_
  refine ex_pu (ls' := [vI v0, vI v1, vI v2]) (st' := [vI v2, vI (iAnd v0 v1)]) (dg dc232 3 rfl) rfl rfl ?_
  refine ex_icmp (t := 11) (dg dc232 4 rfl) rfl hf (fun _ hf => ?_) (fun _ hf => ?_)
  · refine ex_pu (ls' := [vI v0, vI v1, vI v2]) (st' := [vI 0]) (dg dc232 7 rfl) rfl rfl ?_
    exact ex_ire (dg dc232 8 rfl) rfl hf
  · refine ex_pu (ls' := [vI v0, vI v1, vI v2]) (st' := [vI 1]) (dg dc232 5 rfl) rfl rfl ?_
    refine ex_goto (t := 12) (dg dc232 6 rfl) rfl rfl ?_
    exact ex_ire (dg dc232 8 rfl) rfl hf
-- GlassHillModel.fitsKeeper
def il233 : List (Nat × Instr × Nat) := [(0, .aload_n 0, 1), (1, .iload_n 1, 1), (2, .iconst 0, 1), (3, .invokevirtual 290, 3), (6, .aload_n 0, 1), (7, .iload_n 2, 1), (8, .iconst 1, 1), (9, .invokevirtual 72, 3), (12, .aload_n 0, 1), (13, .iload_n 2, 1), (14, .iconst 2, 1), (15, .invokevirtual 72, 3), (18, .invokestatic 325, 3), (21, .ireturn, 1)]
theorem dc233 : dcs (mC 233) il233 := dc_of (by decide +kernel)
def mo_fitsKeeper (v1 : Int) (v2 : Int) (M : MM) : OR :=
  (bI (mo_ofThing v1 0 M) fun z_3 M_2 => (bI (mo_of v2 1 M_2) fun z_6 M_5 => (bI (mo_of v2 2 M_5) fun z_9 M_8 => (bI (mo_isFit z_3 z_6 z_9 M_8) fun z_12 M_11 => (bif zo z_12 then some (rI z_12, M_11) else none)))))
set_option maxRecDepth 4000 in
theorem mo_fitsKeeper_ok {Z : Nat × (Nat → Int)} {d : Nat} (hd : 1 ≤ d) {M : MM}  {v1 v2 : Int} {res : AR × MM} (hf : mo_fitsKeeper v1 v2 M = some res) : EX Z d 233 0 (ent 233 [vR 165, vI v1, vI v2]) [] M res := by
  obtain ⟨e9, rfl⟩ : ∃ e9, d = e9 + 1 := ⟨d - 1, by omega⟩
  unfold mo_fitsKeeper at hf
  show EX Z _ 233 0 [vR 165, vI v1, vI v2] [] M res
  refine ex_pu (ls' := [vR 165, vI v1, vI v2]) (st' := [vR 165]) (dg dc233 0 rfl) rfl rfl ?_
  refine ex_pu (ls' := [vR 165, vI v1, vI v2]) (st' := [vI v1, vR 165]) (dg dc233 1 rfl) rfl rfl ?_
  refine ex_pu (ls' := [vR 165, vI v1, vI v2]) (st' := [vI 0, vI v1, vR 165]) (dg dc233 2 rfl) rfl rfl ?_
  refine ex_cI (vs := [vR 165, vI v1, vI 0]) (st' := []) (F := (mo_ofThing v1 0 M)) (Or.inr (Or.inl ⟨rfl, (dg dc233 3 rfl)⟩)) rfl rfl (rk1 (LOC.st (Nat.le_of_ble_eq_true rfl) rfl) rfl) rfl (fun _ r9 => mo_ofThing_ok (Z := Z) (d := e9) (by omega)  r9) hf (fun z_3 M_2 he_1 hf => ?_)
  refine ex_pu (ls' := [vR 165, vI v1, vI v2]) (st' := [vR 165, vI z_3]) (dg dc233 4 rfl) rfl rfl ?_
  refine ex_pu (ls' := [vR 165, vI v1, vI v2]) (st' := [vI v2, vR 165, vI z_3]) (dg dc233 5 rfl) rfl rfl ?_
  refine ex_pu (ls' := [vR 165, vI v1, vI v2]) (st' := [vI 1, vI v2, vR 165, vI z_3]) (dg dc233 6 rfl) rfl rfl ?_
  refine ex_cI (vs := [vR 165, vI v2, vI 1]) (st' := [vI z_3]) (F := (mo_of v2 1 M_2)) (Or.inr (Or.inl ⟨rfl, (dg dc233 7 rfl)⟩)) rfl rfl (rk1 (LOC.st (Nat.le_of_ble_eq_true rfl) rfl) rfl) rfl (fun _ r9 => mo_of_ok (Z := Z) (d := e9) (by omega)  r9) hf (fun z_6 M_5 he_4 hf => ?_)
  refine ex_pu (ls' := [vR 165, vI v1, vI v2]) (st' := [vR 165, vI z_6, vI z_3]) (dg dc233 8 rfl) rfl rfl ?_
  refine ex_pu (ls' := [vR 165, vI v1, vI v2]) (st' := [vI v2, vR 165, vI z_6, vI z_3]) (dg dc233 9 rfl) rfl rfl ?_
  refine ex_pu (ls' := [vR 165, vI v1, vI v2]) (st' := [vI 2, vI v2, vR 165, vI z_6, vI z_3]) (dg dc233 10 rfl) rfl rfl ?_
  refine ex_cI (vs := [vR 165, vI v2, vI 2]) (st' := [vI z_6, vI z_3]) (F := (mo_of v2 2 M_5)) (Or.inr (Or.inl ⟨rfl, (dg dc233 11 rfl)⟩)) rfl rfl (rk1 (LOC.st (Nat.le_of_ble_eq_true rfl) rfl) rfl) rfl (fun _ r9 => mo_of_ok (Z := Z) (d := e9) (by omega)  r9) hf (fun z_9 M_8 he_7 hf => ?_)
  refine ex_cI (vs := [vI z_3, vI z_6, vI z_9]) (st' := []) (F := (mo_isFit z_3 z_6 z_9 M_8)) (Or.inl ⟨rfl, (dg dc233 12 rfl)⟩) rfl rfl (Or.inl rfl) rfl (fun _ r9 => mo_isFit_ok (Z := Z) (d := e9) (by omega)  r9) hf (fun z_12 M_11 he_10 hf => ?_)
  exact ex_irb (dg dc233 13 rfl) rfl hf
-- GlassHillModel.fitsBrother
def il234 : List (Nat × Instr × Nat) := [(0, .aload_n 0, 1), (1, .iload_n 1, 1), (2, .iconst 0, 1), (3, .invokevirtual 290, 3), (6, .aload_n 0, 1), (7, .iload_n 2, 1), (8, .iconst 1, 1), (9, .invokevirtual 287, 3), (12, .aload_n 0, 1), (13, .iload_n 2, 1), (14, .iconst 2, 1), (15, .invokevirtual 287, 3), (18, .invokestatic 325, 3), (21, .ireturn, 1)]
theorem dc234 : dcs (mC 234) il234 := dc_of (by decide +kernel)
def mo_fitsBrother (v1 : Int) (v2 : Int) (M : MM) : OR :=
  (bI (mo_ofThing v1 0 M) fun z_3 M_2 => (bI (mo_ofBrother v2 1 M_2) fun z_6 M_5 => (bI (mo_ofBrother v2 2 M_5) fun z_9 M_8 => (bI (mo_isFit z_3 z_6 z_9 M_8) fun z_12 M_11 => (bif zo z_12 then some (rI z_12, M_11) else none)))))
set_option maxRecDepth 4000 in
theorem mo_fitsBrother_ok {Z : Nat × (Nat → Int)} {d : Nat} (hd : 1 ≤ d) {M : MM}  {v1 v2 : Int} {res : AR × MM} (hf : mo_fitsBrother v1 v2 M = some res) : EX Z d 234 0 (ent 234 [vR 165, vI v1, vI v2]) [] M res := by
  obtain ⟨e9, rfl⟩ : ∃ e9, d = e9 + 1 := ⟨d - 1, by omega⟩
  unfold mo_fitsBrother at hf
  show EX Z _ 234 0 [vR 165, vI v1, vI v2] [] M res
  refine ex_pu (ls' := [vR 165, vI v1, vI v2]) (st' := [vR 165]) (dg dc234 0 rfl) rfl rfl ?_
  refine ex_pu (ls' := [vR 165, vI v1, vI v2]) (st' := [vI v1, vR 165]) (dg dc234 1 rfl) rfl rfl ?_
  refine ex_pu (ls' := [vR 165, vI v1, vI v2]) (st' := [vI 0, vI v1, vR 165]) (dg dc234 2 rfl) rfl rfl ?_
  refine ex_cI (vs := [vR 165, vI v1, vI 0]) (st' := []) (F := (mo_ofThing v1 0 M)) (Or.inr (Or.inl ⟨rfl, (dg dc234 3 rfl)⟩)) rfl rfl (rk1 (LOC.st (Nat.le_of_ble_eq_true rfl) rfl) rfl) rfl (fun _ r9 => mo_ofThing_ok (Z := Z) (d := e9) (by omega)  r9) hf (fun z_3 M_2 he_1 hf => ?_)
  refine ex_pu (ls' := [vR 165, vI v1, vI v2]) (st' := [vR 165, vI z_3]) (dg dc234 4 rfl) rfl rfl ?_
  refine ex_pu (ls' := [vR 165, vI v1, vI v2]) (st' := [vI v2, vR 165, vI z_3]) (dg dc234 5 rfl) rfl rfl ?_
  refine ex_pu (ls' := [vR 165, vI v1, vI v2]) (st' := [vI 1, vI v2, vR 165, vI z_3]) (dg dc234 6 rfl) rfl rfl ?_
  refine ex_cI (vs := [vR 165, vI v2, vI 1]) (st' := [vI z_3]) (F := (mo_ofBrother v2 1 M_2)) (Or.inr (Or.inl ⟨rfl, (dg dc234 7 rfl)⟩)) rfl rfl (rk1 (LOC.st (Nat.le_of_ble_eq_true rfl) rfl) rfl) rfl (fun _ r9 => mo_ofBrother_ok (Z := Z) (d := e9) (by omega)  r9) hf (fun z_6 M_5 he_4 hf => ?_)
  refine ex_pu (ls' := [vR 165, vI v1, vI v2]) (st' := [vR 165, vI z_6, vI z_3]) (dg dc234 8 rfl) rfl rfl ?_
  refine ex_pu (ls' := [vR 165, vI v1, vI v2]) (st' := [vI v2, vR 165, vI z_6, vI z_3]) (dg dc234 9 rfl) rfl rfl ?_
  refine ex_pu (ls' := [vR 165, vI v1, vI v2]) (st' := [vI 2, vI v2, vR 165, vI z_6, vI z_3]) (dg dc234 10 rfl) rfl rfl ?_
  refine ex_cI (vs := [vR 165, vI v2, vI 2]) (st' := [vI z_6, vI z_3]) (F := (mo_ofBrother v2 2 M_5)) (Or.inr (Or.inl ⟨rfl, (dg dc234 11 rfl)⟩)) rfl rfl (rk1 (LOC.st (Nat.le_of_ble_eq_true rfl) rfl) rfl) rfl (fun _ r9 => mo_ofBrother_ok (Z := Z) (d := e9) (by omega)  r9) hf (fun z_9 M_8 he_7 hf => ?_)
  refine ex_cI (vs := [vI z_3, vI z_6, vI z_9]) (st' := []) (F := (mo_isFit z_3 z_6 z_9 M_8)) (Or.inl ⟨rfl, (dg dc234 12 rfl)⟩) rfl rfl (Or.inl rfl) rfl (fun _ r9 => mo_isFit_ok (Z := Z) (d := e9) (by omega)  r9) hf (fun z_12 M_11 he_10 hf => ?_)
  exact ex_irb (dg dc234 13 rfl) rfl hf
-- GlassHillModel.factOf
def il235 : List (Nat × Instr × Nat) := [(0, .aload_n 0, 1), (1, .getfield 328, 3), (4, .bipush 24, 2), (6, .irem, 1), (7, .istore_n 3, 1), (8, .iload_n 1, 1), (9, .tableswitch 100 0 7 #[47, 52, 57, 62, 64, 72, 77, 82], 47), (56, .aload_n 0, 1), (57, .getfield 331, 3), (60, .ireturn, 1), (61, .aload_n 0, 1), (62, .getfield 334, 3), (65, .ireturn, 1), (66, .aload_n 0, 1), (67, .getfield 337, 3), (70, .ireturn, 1), (71, .iload_n 3, 1), (72, .ireturn, 1), (73, .aload_n 0, 1), (74, .getfield 328, 3), (77, .bipush 24, 2), (79, .idiv, 1), (80, .ireturn, 1), (81, .aload_n 0, 1), (82, .getfield 340, 3), (85, .ireturn, 1), (86, .aload_n 0, 1), (87, .getfield 343, 3), (90, .ireturn, 1), (91, .iload_n 3, 1), (92, .bipush 6, 2), (94, .if_icmp .lt 9, 3), (97, .iload_n 3, 1), (98, .bipush 19, 2), (100, .if_icmp .le 7, 3), (103, .iconst 1, 1), (104, .goto 4, 3), (107, .iconst 0, 1), (108, .ireturn, 1), (109, .iload_n 2, 1), (110, .ireturn, 1)]
theorem dc235 : dcs (mC 235) il235 := dc_of (by decide +kernel)
def mo_factOf (v1 : Int) (v2 : Int) (M : MM) : OR :=
  (bif cmpB .eq v1 0 then some (rI (M 165 17), M) else (bif cmpB .eq v1 1 then some (rI (M 165 18), M) else (bif cmpB .eq v1 2 then some (rI (M 165 19), M) else (bif cmpB .eq v1 3 then some (rI ((w32 (M 165 20)).tmod (w32 24)), M) else (bif cmpB .eq v1 4 then some (rI ((w32 (M 165 20)).tdiv (w32 24)), M) else (bif cmpB .eq v1 5 then some (rI (M 165 21), M) else (bif cmpB .eq v1 6 then some (rI (M 165 22), M) else (bif cmpB .eq v1 7 then (bif cmpB .lt ((w32 (M 165 20)).tmod (w32 24)) 6 then some (rI 1, M) else (bif cmpB .le ((w32 (M 165 20)).tmod (w32 24)) 19 then some (rI 0, M) else some (rI 1, M))) else some (rI v2, M)))))))))
set_option maxRecDepth 4000 in
theorem mo_factOf_ok {Z : Nat × (Nat → Int)} {d : Nat} (hd : 0 ≤ d) {M : MM}  {v1 v2 : Int} {res : AR × MM} (hf : mo_factOf v1 v2 M = some res) : EX Z d 235 0 (ent 235 [vR 165, vI v1, vI v2]) [] M res := by
  unfold mo_factOf at hf
  show EX Z _ 235 0 [vR 165, vI v1, vI v2, vU] [] M res
  refine ex_pu (ls' := [vR 165, vI v1, vI v2, vU]) (st' := [vR 165]) (dg dc235 0 rfl) rfl rfl ?_
  refine ex_getI (dg dc235 1 rfl) rfl (LOC.st (Nat.le_of_ble_eq_true rfl) rfl) rfl ?_
  refine ex_pu (ls' := [vR 165, vI v1, vI v2, vU]) (st' := [vI 24, vI (M 165 20)]) (dg dc235 2 rfl) rfl rfl ?_
  refine ex_irem (dg dc235 3 rfl) (by decide +kernel) ?_
  refine ex_pu (ls' := [vR 165, vI v1, vI v2, vI ((w32 (M 165 20)).tmod (w32 24))]) (st' := []) (dg dc235 4 rfl) rfl rfl ?_
  refine ex_pu (ls' := [vR 165, vI v1, vI v2, vI ((w32 (M 165 20)).tmod (w32 24))]) (st' := [vI v1]) (dg dc235 5 rfl) rfl rfl ?_
  refine ex_bif hf (fun hc_1 hf => ?_) (fun hc_1 hf => ?_)
  · refine ex_tsw (t := 56) (dg dc235 6 rfl) hc_1 (by decide +kernel) rfl ⟨by decide, by decide, by decide⟩ rfl ?_
    refine ex_pu (ls' := [vR 165, vI v1, vI v2, vI ((w32 (M 165 20)).tmod (w32 24))]) (st' := [vR 165]) (dg dc235 7 rfl) rfl rfl ?_
    refine ex_getI (dg dc235 8 rfl) rfl (LOC.st (Nat.le_of_ble_eq_true rfl) rfl) rfl ?_
    exact ex_ire (dg dc235 9 rfl) rfl hf
  ·
    refine ex_bif hf (fun hc_2 hf => ?_) (fun hc_2 hf => ?_)
    · refine ex_tsw (t := 61) (dg dc235 6 rfl) hc_2 (by decide +kernel) rfl ⟨by decide, by decide, by decide⟩ rfl ?_
      refine ex_pu (ls' := [vR 165, vI v1, vI v2, vI ((w32 (M 165 20)).tmod (w32 24))]) (st' := [vR 165]) (dg dc235 10 rfl) rfl rfl ?_
      refine ex_getI (dg dc235 11 rfl) rfl (LOC.st (Nat.le_of_ble_eq_true rfl) rfl) rfl ?_
      exact ex_ire (dg dc235 12 rfl) rfl hf
    ·
      refine ex_bif hf (fun hc_3 hf => ?_) (fun hc_3 hf => ?_)
      · refine ex_tsw (t := 66) (dg dc235 6 rfl) hc_3 (by decide +kernel) rfl ⟨by decide, by decide, by decide⟩ rfl ?_
        refine ex_pu (ls' := [vR 165, vI v1, vI v2, vI ((w32 (M 165 20)).tmod (w32 24))]) (st' := [vR 165]) (dg dc235 13 rfl) rfl rfl ?_
        refine ex_getI (dg dc235 14 rfl) rfl (LOC.st (Nat.le_of_ble_eq_true rfl) rfl) rfl ?_
        exact ex_ire (dg dc235 15 rfl) rfl hf
      ·
        refine ex_bif hf (fun hc_4 hf => ?_) (fun hc_4 hf => ?_)
        · refine ex_tsw (t := 71) (dg dc235 6 rfl) hc_4 (by decide +kernel) rfl ⟨by decide, by decide, by decide⟩ rfl ?_
          refine ex_pu (ls' := [vR 165, vI v1, vI v2, vI ((w32 (M 165 20)).tmod (w32 24))]) (st' := [vI ((w32 (M 165 20)).tmod (w32 24))]) (dg dc235 16 rfl) rfl rfl ?_
          exact ex_ire (dg dc235 17 rfl) rfl hf
        ·
          refine ex_bif hf (fun hc_5 hf => ?_) (fun hc_5 hf => ?_)
          · refine ex_tsw (t := 73) (dg dc235 6 rfl) hc_5 (by decide +kernel) rfl ⟨by decide, by decide, by decide⟩ rfl ?_
            refine ex_pu (ls' := [vR 165, vI v1, vI v2, vI ((w32 (M 165 20)).tmod (w32 24))]) (st' := [vR 165]) (dg dc235 18 rfl) rfl rfl ?_
            refine ex_getI (dg dc235 19 rfl) rfl (LOC.st (Nat.le_of_ble_eq_true rfl) rfl) rfl ?_
            refine ex_pu (ls' := [vR 165, vI v1, vI v2, vI ((w32 (M 165 20)).tmod (w32 24))]) (st' := [vI 24, vI (M 165 20)]) (dg dc235 20 rfl) rfl rfl ?_
            refine ex_idiv (dg dc235 21 rfl) (by decide +kernel) ?_
            exact ex_ire (dg dc235 22 rfl) rfl hf
          ·
            refine ex_bif hf (fun hc_6 hf => ?_) (fun hc_6 hf => ?_)
            · refine ex_tsw (t := 81) (dg dc235 6 rfl) hc_6 (by decide +kernel) rfl ⟨by decide, by decide, by decide⟩ rfl ?_
              refine ex_pu (ls' := [vR 165, vI v1, vI v2, vI ((w32 (M 165 20)).tmod (w32 24))]) (st' := [vR 165]) (dg dc235 23 rfl) rfl rfl ?_
              refine ex_getI (dg dc235 24 rfl) rfl (LOC.st (Nat.le_of_ble_eq_true rfl) rfl) rfl ?_
              exact ex_ire (dg dc235 25 rfl) rfl hf
            ·
              refine ex_bif hf (fun hc_7 hf => ?_) (fun hc_7 hf => ?_)
              · refine ex_tsw (t := 86) (dg dc235 6 rfl) hc_7 (by decide +kernel) rfl ⟨by decide, by decide, by decide⟩ rfl ?_
                refine ex_pu (ls' := [vR 165, vI v1, vI v2, vI ((w32 (M 165 20)).tmod (w32 24))]) (st' := [vR 165]) (dg dc235 26 rfl) rfl rfl ?_
                refine ex_getI (dg dc235 27 rfl) rfl (LOC.st (Nat.le_of_ble_eq_true rfl) rfl) rfl ?_
                exact ex_ire (dg dc235 28 rfl) rfl hf
              ·
                refine ex_bif hf (fun hc_8 hf => ?_) (fun hc_8 hf => ?_)
                · refine ex_tsw (t := 91) (dg dc235 6 rfl) hc_8 (by decide +kernel) rfl ⟨by decide, by decide, by decide⟩ rfl ?_
                  refine ex_pu (ls' := [vR 165, vI v1, vI v2, vI ((w32 (M 165 20)).tmod (w32 24))]) (st' := [vI ((w32 (M 165 20)).tmod (w32 24))]) (dg dc235 29 rfl) rfl rfl ?_
                  refine ex_pu (ls' := [vR 165, vI v1, vI v2, vI ((w32 (M 165 20)).tmod (w32 24))]) (st' := [vI 6, vI ((w32 (M 165 20)).tmod (w32 24))]) (dg dc235 30 rfl) rfl rfl ?_
                  refine ex_icmp (t := 103) (dg dc235 31 rfl) rfl hf (fun _ hf => ?_) (fun _ hf => ?_)
                  · refine ex_pu (ls' := [vR 165, vI v1, vI v2, vI ((w32 (M 165 20)).tmod (w32 24))]) (st' := [vI 1]) (dg dc235 35 rfl) rfl rfl ?_
                    refine ex_goto (t := 108) (dg dc235 36 rfl) rfl rfl ?_
                    exact ex_ire (dg dc235 38 rfl) rfl hf
                  · refine ex_pu (ls' := [vR 165, vI v1, vI v2, vI ((w32 (M 165 20)).tmod (w32 24))]) (st' := [vI ((w32 (M 165 20)).tmod (w32 24))]) (dg dc235 32 rfl) rfl rfl ?_
                    refine ex_pu (ls' := [vR 165, vI v1, vI v2, vI ((w32 (M 165 20)).tmod (w32 24))]) (st' := [vI 19, vI ((w32 (M 165 20)).tmod (w32 24))]) (dg dc235 33 rfl) rfl rfl ?_
                    refine ex_icmp (t := 107) (dg dc235 34 rfl) rfl hf (fun _ hf => ?_) (fun _ hf => ?_)
                    · refine ex_pu (ls' := [vR 165, vI v1, vI v2, vI ((w32 (M 165 20)).tmod (w32 24))]) (st' := [vI 0]) (dg dc235 37 rfl) rfl rfl ?_
                      exact ex_ire (dg dc235 38 rfl) rfl hf
                    · refine ex_pu (ls' := [vR 165, vI v1, vI v2, vI ((w32 (M 165 20)).tmod (w32 24))]) (st' := [vI 1]) (dg dc235 35 rfl) rfl rfl ?_
                      refine ex_goto (t := 108) (dg dc235 36 rfl) rfl rfl ?_
                      exact ex_ire (dg dc235 38 rfl) rfl hf
                · refine ex_tsd (t := 109) (dg dc235 6 rfl) (sw_out (lo := 0) (hi := 7) (fun j h1 h2 => by have hj : j = 0 ∨ j = 1 ∨ j = 2 ∨ j = 3 ∨ j = 4 ∨ j = 5 ∨ j = 6 ∨ j = 7 := (by omega); rcases hj with rfl | rfl | rfl | rfl | rfl | rfl | rfl | rfl <;> first | exact ⟨hc_1, by decide +kernel⟩ | exact ⟨hc_2, by decide +kernel⟩ | exact ⟨hc_3, by decide +kernel⟩ | exact ⟨hc_4, by decide +kernel⟩ | exact ⟨hc_5, by decide +kernel⟩ | exact ⟨hc_6, by decide +kernel⟩ | exact ⟨hc_7, by decide +kernel⟩ | exact ⟨hc_8, by decide +kernel⟩)) rfl ?_
                  refine ex_pu (ls' := [vR 165, vI v1, vI v2, vI ((w32 (M 165 20)).tmod (w32 24))]) (st' := [vI v2]) (dg dc235 39 rfl) rfl rfl ?_
                  exact ex_ire (dg dc235 40 rfl) rfl hf
-- GlassHillModel.holdsLine
def il236 : List (Nat × Instr × Nat) := [(0, .iconst 0, 1), (1, .istore_n 2, 1), (2, .sipush 267, 3), (5, .iconst 4, 1), (6, .iload_n 1, 1), (7, .imul, 1), (8, .iadd, 1), (9, .istore_n 3, 1), (10, .aload_n 0, 1), (11, .getfield 13, 3), (14, .iload_n 3, 1), (15, .iconst 2, 1), (16, .iadd, 1), (17, .iaload, 1), (18, .istore 4, 2), (20, .iload 4, 2), (22, .aload_n 0, 1), (23, .getfield 13, 3), (26, .iload_n 3, 1), (27, .iconst 3, 1), (28, .iadd, 1), (29, .iaload, 1), (30, .if_icmp .ge 229, 3), (33, .aload_n 0, 1), (34, .getfield 13, 3), (37, .sipush 315, 3), (40, .iconst 2, 1), (41, .iload 4, 2), (43, .imul, 1), (44, .iadd, 1), (45, .iaload, 1), (46, .istore 5, 2), (48, .iload 5, 2), (50, .bipush 8, 2), (52, .if_icmp .gt 36, 3), (55, .aload_n 0, 1), (56, .getfield 36, 3), (59, .iload_n 2, 1), (60, .aload_n 0, 1), (61, .iload 5, 2), (63, .aload_n 0, 1), (64, .getfield 13, 3), (67, .sipush 315, 3), (70, .iconst 2, 1), (71, .iload 4, 2), (73, .imul, 1), (74, .iadd, 1), (75, .iconst 1, 1), (76, .iadd, 1), (77, .iaload, 1), (78, .invokevirtual 346, 3), (81, .iastore, 1), (82, .iinc 2 1, 3), (85, .goto 168, 3), (88, .iload 5, 2), (90, .bipush 12, 2), (92, .if_icmp .ne 24, 3), (95, .aload_n 0, 1), (96, .getfield 36, 3), (99, .iload_n 2, 1), (100, .iconst 1, 1), (101, .isub, 1), (102, .iconst 1, 1), (103, .aload_n 0, 1), (104, .getfield 36, 3), (107, .iload_n 2, 1), (108, .iconst 1, 1), (109, .isub, 1), (110, .iaload, 1), (111, .isub, 1), (112, .iastore, 1), (113, .goto 140, 3), (116, .iinc 2 (-1), 3), (119, .aload_n 0, 1), (120, .getfield 36, 3), (123, .iload_n 2, 1), (124, .iconst 1, 1), (125, .isub, 1), (126, .iaload, 1), (127, .istore 6, 2), (129, .aload_n 0, 1), (130, .getfield 36, 3), (133, .iload_n 2, 1), (134, .iaload, 1), (135, .istore 7, 2), (137, .iload 5, 2), (139, .bipush 10, 2), (141, .if_icmp .ne 18, 3), (144, .iload 6, 2), (146, .iload 7, 2), (148, .if_icmp .ge 7, 3), (151, .iconst 1, 1), (152, .goto 66, 3), (155, .iconst 0, 1), (156, .goto 62, 3), (159, .iload 5, 2), (161, .bipush 11, 2), (163, .if_icmp .ne 18, 3), (166, .iload 6, 2), (168, .iload 7, 2), (170, .if_icmp .le 7, 3), (173, .iconst 1, 1), (174, .goto 44, 3), (177, .iconst 0, 1), (178, .goto 40, 3), (181, .iload 5, 2), (183, .bipush 13, 2), (185, .if_icmp .ne 20, 3), (188, .iload 6, 2), (190, .iload 7, 2), (192, .iadd, 1), (193, .iconst 2, 1), (194, .if_icmp .ne 7, 3), (197, .iconst 1, 1), (198, .goto 20, 3), (201, .iconst 0, 1), (202, .goto 16, 3), (205, .iload 6, 2), (207, .iload 7, 2), (209, .iadd, 1), (210, .ifCond .le 7, 3), (213, .iconst 1, 1), (214, .goto 4, 3), (217, .iconst 0, 1), (218, .istore 8, 2), (220, .aload_n 0, 1), (221, .getfield 36, 3), (224, .iload_n 2, 1), (225, .iconst 1, 1), (226, .isub, 1), (227, .iload 5, 2), (229, .bipush 9, 2), (231, .if_icmp .ne 11, 3), (234, .iload 6, 2), (236, .iload 7, 2), (238, .iadd, 1), (239, .goto 13, 3), (242, .iload 8, 2), (244, .ifCond .eq 7, 3), (247, .iconst 1, 1), (248, .goto 4, 3), (251, .iconst 0, 1), (252, .iastore, 1), (253, .iinc 4 1, 3), (256, .goto (-236), 3), (259, .iload_n 2, 1), (260, .ifCond .eq 13, 3), (263, .aload_n 0, 1), (264, .getfield 36, 3), (267, .iconst 0, 1), (268, .iaload, 1), (269, .iconst 1, 1), (270, .if_icmp .ne 7, 3), (273, .iconst 1, 1), (274, .goto 4, 3), (277, .iconst 0, 1), (278, .ireturn, 1)]
theorem dc236 : dcs (mC 236) il236 := dc_of (by decide +kernel)
def mo_holdsLine_J218  (v3 : Int) (Kb : Int → Int → MM → OR) (K1 : Int → MM → OR) (v2 v4 v5 v6 v7 s0 : Int) (M : MM) : OR :=
  (bif cmpB .ne v5 9 then (bif cmpB .eq s0 0 then (bif inB (v2 - 1) 400 then (sM (mU M 172 ((v2 - 1)).toNat 0) fun M_2 => (Kb v2 (v4 + 1) M_2)) else none) else (bif inB (v2 - 1) 400 then (sM (mU M 172 ((v2 - 1)).toNat 1) fun M_4 => (Kb v2 (v4 + 1) M_4)) else none)) else (bif inB (v2 - 1) 400 then (sM (mU M 172 ((v2 - 1)).toNat (v6 + v7)) fun M_6 => (Kb v2 (v4 + 1) M_6)) else none))
set_option maxRecDepth 4000 in
theorem mo_holdsLine_J218_ok {Z : Nat × (Nat → Int)} {d : Nat} (hd : 1 ≤ d)  {v3 : Int} {Kb : Int → Int → MM → OR} {K1 : Int → MM → OR} {res : AR × MM} (kb : ∀ (x2 x4 : Int) (M : MM) (j1 j5 j6 j7 j8 : AV), Kb x2 x4 M = some res → EX Z d 236 20 [vR 165, j1, vI x2, vI v3, vI x4, j5, j6, j7, j8] [] M res) (k1 : ∀ (x2 : Int) (M : MM) (j1 j3 j4 j5 j6 j7 j8 : AV), K1 x2 M = some res → EX Z d 236 259 [vR 165, j1, vI x2, j3, j4, j5, j6, j7, j8] [] M res) : ∀ (v2 v4 v5 v6 v7 s0 : Int) (M : MM) (j1 j8 : AV), mo_holdsLine_J218 v3 Kb K1 v2 v4 v5 v6 v7 s0 M = some res → EX Z d 236 218 [vR 165, j1, vI v2, vI v3, vI v4, vI v5, vI v6, vI v7, j8] [vI s0] M res := by
  obtain ⟨e9, rfl⟩ : ∃ e9, d = e9 + 1 := ⟨d - 1, by omega⟩
  intro v2 v4 v5 v6 v7 s0 M j1 j8 hf
  unfold mo_holdsLine_J218 at hf
  refine ex_pu (ls' := [vR 165, j1, vI v2, vI v3, vI v4, vI v5, vI v6, vI v7, vI s0]) (st' := []) (dg dc236 124 rfl) rfl rfl ?_
  refine ex_pu (ls' := [vR 165, j1, vI v2, vI v3, vI v4, vI v5, vI v6, vI v7, vI s0]) (st' := [vR 165]) (dg dc236 125 rfl) rfl rfl ?_
  refine ex_getO (dg dc236 126 rfl) rfl (LOC.st (Nat.le_of_ble_eq_true rfl) rfl) rfl ?_
  show EX Z _ 236 _ [vR 165, j1, vI v2, vI v3, vI v4, vI v5, vI v6, vI v7, vI s0] [vR 172] _ _
  refine ex_pu (ls' := [vR 165, j1, vI v2, vI v3, vI v4, vI v5, vI v6, vI v7, vI s0]) (st' := [vI v2, vR 172]) (dg dc236 127 rfl) rfl rfl ?_
  refine ex_pu (ls' := [vR 165, j1, vI v2, vI v3, vI v4, vI v5, vI v6, vI v7, vI s0]) (st' := [vI 1, vI v2, vR 172]) (dg dc236 128 rfl) rfl rfl ?_
  refine ex_pu (ls' := [vR 165, j1, vI v2, vI v3, vI v4, vI v5, vI v6, vI v7, vI s0]) (st' := [vI (v2 - 1), vR 172]) (dg dc236 129 rfl) rfl rfl ?_
  refine ex_pu (ls' := [vR 165, j1, vI v2, vI v3, vI v4, vI v5, vI v6, vI v7, vI s0]) (st' := [vI v5, vI (v2 - 1), vR 172]) (dg dc236 130 rfl) rfl rfl ?_
  refine ex_pu (ls' := [vR 165, j1, vI v2, vI v3, vI v4, vI v5, vI v6, vI v7, vI s0]) (st' := [vI 9, vI v5, vI (v2 - 1), vR 172]) (dg dc236 131 rfl) rfl rfl ?_
  refine ex_icmp (t := 242) (dg dc236 132 rfl) rfl hf (fun _ hf => ?_) (fun _ hf => ?_)
  · refine ex_pu (ls' := [vR 165, j1, vI v2, vI v3, vI v4, vI v5, vI v6, vI v7, vI s0]) (st' := [vI s0, vI (v2 - 1), vR 172]) (dg dc236 137 rfl) rfl rfl ?_
    refine ex_if (t := 251) (dg dc236 138 rfl) rfl hf (fun _ hf => ?_) (fun _ hf => ?_)
    · refine ex_pu (ls' := [vR 165, j1, vI v2, vI v3, vI v4, vI v5, vI v6, vI v7, vI s0]) (st' := [vI 0, vI (v2 - 1), vR 172]) (dg dc236 141 rfl) rfl rfl ?_
      refine ex_iast (dg dc236 142 rfl) (LOC.st (Nat.le_of_ble_eq_true rfl) rfl) rfl rfl hf (fun _ hf => ?_)
      refine ex_gen hf (fun M_2 hM_3 hf => ?_)
      refine ex_pu (ls' := [vR 165, j1, vI v2, vI v3, vI (v4 + 1), vI v5, vI v6, vI v7, vI s0]) (st' := []) (dg dc236 143 rfl) rfl rfl ?_
      refine ex_goto (t := 20) (dg dc236 144 rfl) rfl rfl ?_
      exact kb v2 (v4 + 1) M_2 _ _ _ _ _ hf
    · refine ex_pu (ls' := [vR 165, j1, vI v2, vI v3, vI v4, vI v5, vI v6, vI v7, vI s0]) (st' := [vI 1, vI (v2 - 1), vR 172]) (dg dc236 139 rfl) rfl rfl ?_
      refine ex_goto (t := 252) (dg dc236 140 rfl) rfl rfl ?_
      refine ex_iast (dg dc236 142 rfl) (LOC.st (Nat.le_of_ble_eq_true rfl) rfl) rfl rfl hf (fun _ hf => ?_)
      refine ex_gen hf (fun M_4 hM_5 hf => ?_)
      refine ex_pu (ls' := [vR 165, j1, vI v2, vI v3, vI (v4 + 1), vI v5, vI v6, vI v7, vI s0]) (st' := []) (dg dc236 143 rfl) rfl rfl ?_
      refine ex_goto (t := 20) (dg dc236 144 rfl) rfl rfl ?_
      exact kb v2 (v4 + 1) M_4 _ _ _ _ _ hf
  · refine ex_pu (ls' := [vR 165, j1, vI v2, vI v3, vI v4, vI v5, vI v6, vI v7, vI s0]) (st' := [vI v6, vI (v2 - 1), vR 172]) (dg dc236 133 rfl) rfl rfl ?_
    refine ex_pu (ls' := [vR 165, j1, vI v2, vI v3, vI v4, vI v5, vI v6, vI v7, vI s0]) (st' := [vI v7, vI v6, vI (v2 - 1), vR 172]) (dg dc236 134 rfl) rfl rfl ?_
    refine ex_pu (ls' := [vR 165, j1, vI v2, vI v3, vI v4, vI v5, vI v6, vI v7, vI s0]) (st' := [vI (v6 + v7), vI (v2 - 1), vR 172]) (dg dc236 135 rfl) rfl rfl ?_
    refine ex_goto (t := 252) (dg dc236 136 rfl) rfl rfl ?_
    refine ex_iast (dg dc236 142 rfl) (LOC.st (Nat.le_of_ble_eq_true rfl) rfl) rfl rfl hf (fun _ hf => ?_)
    refine ex_gen hf (fun M_6 hM_7 hf => ?_)
    refine ex_pu (ls' := [vR 165, j1, vI v2, vI v3, vI (v4 + 1), vI v5, vI v6, vI v7, vI s0]) (st' := []) (dg dc236 143 rfl) rfl rfl ?_
    refine ex_goto (t := 20) (dg dc236 144 rfl) rfl rfl ?_
    exact kb v2 (v4 + 1) M_6 _ _ _ _ _ hf
def mo_holdsLine_L20  (v3 : Int) (K1 : Int → MM → OR) : Nat → Int → Int → MM → OR
  | 0, _, _, _ => none
  | n + 1, v2, v4, M => (bif inB (v3 + 3) 1964 then (bif cmpB .ge v4 (M 166 ((v3 + 3)).toNat) then (K1 v2 M) else (bif inB (315 + (2 * v4)) 1964 then (bif cmpB .gt (M 166 ((315 + (2 * v4))).toNat) 8 then (bif cmpB .ne (M 166 ((315 + (2 * v4))).toNat) 12 then (bif inB ((v2 + (-1)) - 1) 400 then (bif inB (v2 + (-1)) 400 then (bif cmpB .ne (M 166 ((315 + (2 * v4))).toNat) 10 then (bif cmpB .ne (M 166 ((315 + (2 * v4))).toNat) 11 then (bif cmpB .ne (M 166 ((315 + (2 * v4))).toNat) 13 then (bif cmpB .le ((M 172 (((v2 + (-1)) - 1)).toNat) + (M 172 ((v2 + (-1))).toNat)) 0 then (mo_holdsLine_J218 v3 (mo_holdsLine_L20 v3 K1 n) K1 (v2 + (-1)) v4 (M 166 ((315 + (2 * v4))).toNat) (M 172 (((v2 + (-1)) - 1)).toNat) (M 172 ((v2 + (-1))).toNat) 0 M) else (mo_holdsLine_J218 v3 (mo_holdsLine_L20 v3 K1 n) K1 (v2 + (-1)) v4 (M 166 ((315 + (2 * v4))).toNat) (M 172 (((v2 + (-1)) - 1)).toNat) (M 172 ((v2 + (-1))).toNat) 1 M)) else (bif cmpB .ne ((M 172 (((v2 + (-1)) - 1)).toNat) + (M 172 ((v2 + (-1))).toNat)) 2 then (mo_holdsLine_J218 v3 (mo_holdsLine_L20 v3 K1 n) K1 (v2 + (-1)) v4 (M 166 ((315 + (2 * v4))).toNat) (M 172 (((v2 + (-1)) - 1)).toNat) (M 172 ((v2 + (-1))).toNat) 0 M) else (mo_holdsLine_J218 v3 (mo_holdsLine_L20 v3 K1 n) K1 (v2 + (-1)) v4 (M 166 ((315 + (2 * v4))).toNat) (M 172 (((v2 + (-1)) - 1)).toNat) (M 172 ((v2 + (-1))).toNat) 1 M))) else (bif cmpB .le (M 172 (((v2 + (-1)) - 1)).toNat) (M 172 ((v2 + (-1))).toNat) then (mo_holdsLine_J218 v3 (mo_holdsLine_L20 v3 K1 n) K1 (v2 + (-1)) v4 (M 166 ((315 + (2 * v4))).toNat) (M 172 (((v2 + (-1)) - 1)).toNat) (M 172 ((v2 + (-1))).toNat) 0 M) else (mo_holdsLine_J218 v3 (mo_holdsLine_L20 v3 K1 n) K1 (v2 + (-1)) v4 (M 166 ((315 + (2 * v4))).toNat) (M 172 (((v2 + (-1)) - 1)).toNat) (M 172 ((v2 + (-1))).toNat) 1 M))) else (bif cmpB .ge (M 172 (((v2 + (-1)) - 1)).toNat) (M 172 ((v2 + (-1))).toNat) then (mo_holdsLine_J218 v3 (mo_holdsLine_L20 v3 K1 n) K1 (v2 + (-1)) v4 (M 166 ((315 + (2 * v4))).toNat) (M 172 (((v2 + (-1)) - 1)).toNat) (M 172 ((v2 + (-1))).toNat) 0 M) else (mo_holdsLine_J218 v3 (mo_holdsLine_L20 v3 K1 n) K1 (v2 + (-1)) v4 (M 166 ((315 + (2 * v4))).toNat) (M 172 (((v2 + (-1)) - 1)).toNat) (M 172 ((v2 + (-1))).toNat) 1 M))) else none) else none) else (bif inB (v2 - 1) 400 then (bif inB (v2 - 1) 400 then (sM (mU M 172 ((v2 - 1)).toNat (1 - (M 172 ((v2 - 1)).toNat))) fun M_8 => (mo_holdsLine_L20 v3 K1 n v2 (v4 + 1) M_8)) else none) else none)) else (bif inB ((315 + (2 * v4)) + 1) 1964 then (bI (mo_factOf (M 166 ((315 + (2 * v4))).toNat) (M 166 (((315 + (2 * v4)) + 1)).toNat) M) fun z_12 M_11 => (bif inB v2 400 then (sM (mU M_11 172 (v2).toNat z_12) fun M_13 => (mo_holdsLine_L20 v3 K1 n (v2 + 1) (v4 + 1) M_13)) else none)) else none)) else none)) else none)
set_option maxRecDepth 4000 in
theorem mo_holdsLine_L20_ok {Z : Nat × (Nat → Int)} {d : Nat} (hd : 1 ≤ d)  {v3 : Int} {K1 : Int → MM → OR} {res : AR × MM} (k1 : ∀ (x2 : Int) (M : MM) (j1 j3 j4 j5 j6 j7 j8 : AV), K1 x2 M = some res → EX Z d 236 259 [vR 165, j1, vI x2, j3, j4, j5, j6, j7, j8] [] M res) : ∀ (n : Nat) (v2 v4 : Int) (M : MM) (j1 j5 j6 j7 j8 : AV), mo_holdsLine_L20 v3 K1 n v2 v4 M = some res → EX Z d 236 20 [vR 165, j1, vI v2, vI v3, vI v4, j5, j6, j7, j8] [] M res := by
  obtain ⟨e9, rfl⟩ : ∃ e9, d = e9 + 1 := ⟨d - 1, by omega⟩
  intro n
  induction n with
  | zero =>
    intro v2 v4 M j1 j5 j6 j7 j8 hf
    unfold mo_holdsLine_L20 at hf
    cases hf
  | succ n ih =>
    intro v2 v4 M j1 j5 j6 j7 j8 hf
    unfold mo_holdsLine_L20 at hf
    refine ex_pu (ls' := [vR 165, j1, vI v2, vI v3, vI v4, j5, j6, j7, j8]) (st' := [vI v4]) (dg dc236 15 rfl) rfl rfl ?_
    refine ex_pu (ls' := [vR 165, j1, vI v2, vI v3, vI v4, j5, j6, j7, j8]) (st' := [vR 165, vI v4]) (dg dc236 16 rfl) rfl rfl ?_
    refine ex_getO (dg dc236 17 rfl) rfl (LOC.st (Nat.le_of_ble_eq_true rfl) rfl) rfl ?_
    show EX Z _ 236 _ [vR 165, j1, vI v2, vI v3, vI v4, j5, j6, j7, j8] [vR 166, vI v4] _ _
    refine ex_pu (ls' := [vR 165, j1, vI v2, vI v3, vI v4, j5, j6, j7, j8]) (st' := [vI v3, vR 166, vI v4]) (dg dc236 18 rfl) rfl rfl ?_
    refine ex_pu (ls' := [vR 165, j1, vI v2, vI v3, vI v4, j5, j6, j7, j8]) (st' := [vI 3, vI v3, vR 166, vI v4]) (dg dc236 19 rfl) rfl rfl ?_
    refine ex_pu (ls' := [vR 165, j1, vI v2, vI v3, vI v4, j5, j6, j7, j8]) (st' := [vI (v3 + 3), vR 166, vI v4]) (dg dc236 20 rfl) rfl rfl ?_
    refine ex_iald (dg dc236 21 rfl) (LOC.st (Nat.le_of_ble_eq_true rfl) rfl) rfl hf (fun _ hf => ?_)
    refine ex_icmp (t := 259) (dg dc236 22 rfl) rfl hf (fun _ hf => ?_) (fun _ hf => ?_)
    · exact k1 v2 M _ _ _ _ _ _ _ hf
    · refine ex_pu (ls' := [vR 165, j1, vI v2, vI v3, vI v4, j5, j6, j7, j8]) (st' := [vR 165]) (dg dc236 23 rfl) rfl rfl ?_
      refine ex_getO (dg dc236 24 rfl) rfl (LOC.st (Nat.le_of_ble_eq_true rfl) rfl) rfl ?_
      show EX Z _ 236 _ [vR 165, j1, vI v2, vI v3, vI v4, j5, j6, j7, j8] [vR 166] _ _
      refine ex_pu (ls' := [vR 165, j1, vI v2, vI v3, vI v4, j5, j6, j7, j8]) (st' := [vI 315, vR 166]) (dg dc236 25 rfl) rfl rfl ?_
      refine ex_pu (ls' := [vR 165, j1, vI v2, vI v3, vI v4, j5, j6, j7, j8]) (st' := [vI 2, vI 315, vR 166]) (dg dc236 26 rfl) rfl rfl ?_
      refine ex_pu (ls' := [vR 165, j1, vI v2, vI v3, vI v4, j5, j6, j7, j8]) (st' := [vI v4, vI 2, vI 315, vR 166]) (dg dc236 27 rfl) rfl rfl ?_
      refine ex_pu (ls' := [vR 165, j1, vI v2, vI v3, vI v4, j5, j6, j7, j8]) (st' := [vI (2 * v4), vI 315, vR 166]) (dg dc236 28 rfl) rfl rfl ?_
      refine ex_pu (ls' := [vR 165, j1, vI v2, vI v3, vI v4, j5, j6, j7, j8]) (st' := [vI (315 + (2 * v4)), vR 166]) (dg dc236 29 rfl) rfl rfl ?_
      refine ex_iald (dg dc236 30 rfl) (LOC.st (Nat.le_of_ble_eq_true rfl) rfl) rfl hf (fun _ hf => ?_)
      refine ex_pu (ls' := [vR 165, j1, vI v2, vI v3, vI v4, vI (M 166 ((315 + (2 * v4))).toNat), j6, j7, j8]) (st' := []) (dg dc236 31 rfl) rfl rfl ?_
      refine ex_pu (ls' := [vR 165, j1, vI v2, vI v3, vI v4, vI (M 166 ((315 + (2 * v4))).toNat), j6, j7, j8]) (st' := [vI (M 166 ((315 + (2 * v4))).toNat)]) (dg dc236 32 rfl) rfl rfl ?_
      refine ex_pu (ls' := [vR 165, j1, vI v2, vI v3, vI v4, vI (M 166 ((315 + (2 * v4))).toNat), j6, j7, j8]) (st' := [vI 8, vI (M 166 ((315 + (2 * v4))).toNat)]) (dg dc236 33 rfl) rfl rfl ?_
      refine ex_icmp (t := 88) (dg dc236 34 rfl) rfl hf (fun _ hf => ?_) (fun _ hf => ?_)
      · refine ex_pu (ls' := [vR 165, j1, vI v2, vI v3, vI v4, vI (M 166 ((315 + (2 * v4))).toNat), j6, j7, j8]) (st' := [vI (M 166 ((315 + (2 * v4))).toNat)]) (dg dc236 54 rfl) rfl rfl ?_
        refine ex_pu (ls' := [vR 165, j1, vI v2, vI v3, vI v4, vI (M 166 ((315 + (2 * v4))).toNat), j6, j7, j8]) (st' := [vI 12, vI (M 166 ((315 + (2 * v4))).toNat)]) (dg dc236 55 rfl) rfl rfl ?_
        refine ex_icmp (t := 116) (dg dc236 56 rfl) rfl hf (fun _ hf => ?_) (fun _ hf => ?_)
        · refine ex_incD (dg dc236 72 rfl) rfl rfl (fun w_1 => ?_)
          show EX Z _ 236 _ [vR 165, w_1, vI (v2 + (-1)), vI v3, vI v4, vI (M 166 ((315 + (2 * v4))).toNat), j6, j7, j8] [] _ _
          refine ex_pu (ls' := [vR 165, w_1, vI (v2 + (-1)), vI v3, vI v4, vI (M 166 ((315 + (2 * v4))).toNat), j6, j7, j8]) (st' := [vR 165]) (dg dc236 73 rfl) rfl rfl ?_
          refine ex_getO (dg dc236 74 rfl) rfl (LOC.st (Nat.le_of_ble_eq_true rfl) rfl) rfl ?_
          show EX Z _ 236 _ [vR 165, w_1, vI (v2 + (-1)), vI v3, vI v4, vI (M 166 ((315 + (2 * v4))).toNat), j6, j7, j8] [vR 172] _ _
          refine ex_pu (ls' := [vR 165, w_1, vI (v2 + (-1)), vI v3, vI v4, vI (M 166 ((315 + (2 * v4))).toNat), j6, j7, j8]) (st' := [vI (v2 + (-1)), vR 172]) (dg dc236 75 rfl) rfl rfl ?_
          refine ex_pu (ls' := [vR 165, w_1, vI (v2 + (-1)), vI v3, vI v4, vI (M 166 ((315 + (2 * v4))).toNat), j6, j7, j8]) (st' := [vI 1, vI (v2 + (-1)), vR 172]) (dg dc236 76 rfl) rfl rfl ?_
          refine ex_pu (ls' := [vR 165, w_1, vI (v2 + (-1)), vI v3, vI v4, vI (M 166 ((315 + (2 * v4))).toNat), j6, j7, j8]) (st' := [vI ((v2 + (-1)) - 1), vR 172]) (dg dc236 77 rfl) rfl rfl ?_
          refine ex_iald (dg dc236 78 rfl) (LOC.st (Nat.le_of_ble_eq_true rfl) rfl) rfl hf (fun _ hf => ?_)
          refine ex_pu (ls' := [vR 165, w_1, vI (v2 + (-1)), vI v3, vI v4, vI (M 166 ((315 + (2 * v4))).toNat), vI (M 172 (((v2 + (-1)) - 1)).toNat), j7, j8]) (st' := []) (dg dc236 79 rfl) rfl rfl ?_
          refine ex_pu (ls' := [vR 165, w_1, vI (v2 + (-1)), vI v3, vI v4, vI (M 166 ((315 + (2 * v4))).toNat), vI (M 172 (((v2 + (-1)) - 1)).toNat), j7, j8]) (st' := [vR 165]) (dg dc236 80 rfl) rfl rfl ?_
          refine ex_getO (dg dc236 81 rfl) rfl (LOC.st (Nat.le_of_ble_eq_true rfl) rfl) rfl ?_
          show EX Z _ 236 _ [vR 165, w_1, vI (v2 + (-1)), vI v3, vI v4, vI (M 166 ((315 + (2 * v4))).toNat), vI (M 172 (((v2 + (-1)) - 1)).toNat), j7, j8] [vR 172] _ _
          refine ex_pu (ls' := [vR 165, w_1, vI (v2 + (-1)), vI v3, vI v4, vI (M 166 ((315 + (2 * v4))).toNat), vI (M 172 (((v2 + (-1)) - 1)).toNat), j7, j8]) (st' := [vI (v2 + (-1)), vR 172]) (dg dc236 82 rfl) rfl rfl ?_
          refine ex_iald (dg dc236 83 rfl) (LOC.st (Nat.le_of_ble_eq_true rfl) rfl) rfl hf (fun _ hf => ?_)
          refine ex_pu (ls' := [vR 165, w_1, vI (v2 + (-1)), vI v3, vI v4, vI (M 166 ((315 + (2 * v4))).toNat), vI (M 172 (((v2 + (-1)) - 1)).toNat), vI (M 172 ((v2 + (-1))).toNat), j8]) (st' := []) (dg dc236 84 rfl) rfl rfl ?_
          refine ex_pu (ls' := [vR 165, w_1, vI (v2 + (-1)), vI v3, vI v4, vI (M 166 ((315 + (2 * v4))).toNat), vI (M 172 (((v2 + (-1)) - 1)).toNat), vI (M 172 ((v2 + (-1))).toNat), j8]) (st' := [vI (M 166 ((315 + (2 * v4))).toNat)]) (dg dc236 85 rfl) rfl rfl ?_
          refine ex_pu (ls' := [vR 165, w_1, vI (v2 + (-1)), vI v3, vI v4, vI (M 166 ((315 + (2 * v4))).toNat), vI (M 172 (((v2 + (-1)) - 1)).toNat), vI (M 172 ((v2 + (-1))).toNat), j8]) (st' := [vI 10, vI (M 166 ((315 + (2 * v4))).toNat)]) (dg dc236 86 rfl) rfl rfl ?_
          refine ex_icmp (t := 159) (dg dc236 87 rfl) rfl hf (fun _ hf => ?_) (fun _ hf => ?_)
          · refine ex_pu (ls' := [vR 165, w_1, vI (v2 + (-1)), vI v3, vI v4, vI (M 166 ((315 + (2 * v4))).toNat), vI (M 172 (((v2 + (-1)) - 1)).toNat), vI (M 172 ((v2 + (-1))).toNat), j8]) (st' := [vI (M 166 ((315 + (2 * v4))).toNat)]) (dg dc236 95 rfl) rfl rfl ?_
            refine ex_pu (ls' := [vR 165, w_1, vI (v2 + (-1)), vI v3, vI v4, vI (M 166 ((315 + (2 * v4))).toNat), vI (M 172 (((v2 + (-1)) - 1)).toNat), vI (M 172 ((v2 + (-1))).toNat), j8]) (st' := [vI 11, vI (M 166 ((315 + (2 * v4))).toNat)]) (dg dc236 96 rfl) rfl rfl ?_
            refine ex_icmp (t := 181) (dg dc236 97 rfl) rfl hf (fun _ hf => ?_) (fun _ hf => ?_)
            · refine ex_pu (ls' := [vR 165, w_1, vI (v2 + (-1)), vI v3, vI v4, vI (M 166 ((315 + (2 * v4))).toNat), vI (M 172 (((v2 + (-1)) - 1)).toNat), vI (M 172 ((v2 + (-1))).toNat), j8]) (st' := [vI (M 166 ((315 + (2 * v4))).toNat)]) (dg dc236 105 rfl) rfl rfl ?_
              refine ex_pu (ls' := [vR 165, w_1, vI (v2 + (-1)), vI v3, vI v4, vI (M 166 ((315 + (2 * v4))).toNat), vI (M 172 (((v2 + (-1)) - 1)).toNat), vI (M 172 ((v2 + (-1))).toNat), j8]) (st' := [vI 13, vI (M 166 ((315 + (2 * v4))).toNat)]) (dg dc236 106 rfl) rfl rfl ?_
              refine ex_icmp (t := 205) (dg dc236 107 rfl) rfl hf (fun _ hf => ?_) (fun _ hf => ?_)
              · refine ex_pu (ls' := [vR 165, w_1, vI (v2 + (-1)), vI v3, vI v4, vI (M 166 ((315 + (2 * v4))).toNat), vI (M 172 (((v2 + (-1)) - 1)).toNat), vI (M 172 ((v2 + (-1))).toNat), j8]) (st' := [vI (M 172 (((v2 + (-1)) - 1)).toNat)]) (dg dc236 117 rfl) rfl rfl ?_
                refine ex_pu (ls' := [vR 165, w_1, vI (v2 + (-1)), vI v3, vI v4, vI (M 166 ((315 + (2 * v4))).toNat), vI (M 172 (((v2 + (-1)) - 1)).toNat), vI (M 172 ((v2 + (-1))).toNat), j8]) (st' := [vI (M 172 ((v2 + (-1))).toNat), vI (M 172 (((v2 + (-1)) - 1)).toNat)]) (dg dc236 118 rfl) rfl rfl ?_
                refine ex_pu (ls' := [vR 165, w_1, vI (v2 + (-1)), vI v3, vI v4, vI (M 166 ((315 + (2 * v4))).toNat), vI (M 172 (((v2 + (-1)) - 1)).toNat), vI (M 172 ((v2 + (-1))).toNat), j8]) (st' := [vI ((M 172 (((v2 + (-1)) - 1)).toNat) + (M 172 ((v2 + (-1))).toNat))]) (dg dc236 119 rfl) rfl rfl ?_
                refine ex_if (t := 217) (dg dc236 120 rfl) rfl hf (fun _ hf => ?_) (fun _ hf => ?_)
                · refine ex_pu (ls' := [vR 165, w_1, vI (v2 + (-1)), vI v3, vI v4, vI (M 166 ((315 + (2 * v4))).toNat), vI (M 172 (((v2 + (-1)) - 1)).toNat), vI (M 172 ((v2 + (-1))).toNat), j8]) (st' := [vI 0]) (dg dc236 123 rfl) rfl rfl ?_
                  exact mo_holdsLine_J218_ok hd  ih k1 (v2 + (-1)) v4 (M 166 ((315 + (2 * v4))).toNat) (M 172 (((v2 + (-1)) - 1)).toNat) (M 172 ((v2 + (-1))).toNat) 0 M _ _ hf
                · refine ex_pu (ls' := [vR 165, w_1, vI (v2 + (-1)), vI v3, vI v4, vI (M 166 ((315 + (2 * v4))).toNat), vI (M 172 (((v2 + (-1)) - 1)).toNat), vI (M 172 ((v2 + (-1))).toNat), j8]) (st' := [vI 1]) (dg dc236 121 rfl) rfl rfl ?_
                  refine ex_goto (t := 218) (dg dc236 122 rfl) rfl rfl ?_
                  exact mo_holdsLine_J218_ok hd  ih k1 (v2 + (-1)) v4 (M 166 ((315 + (2 * v4))).toNat) (M 172 (((v2 + (-1)) - 1)).toNat) (M 172 ((v2 + (-1))).toNat) 1 M _ _ hf
              · refine ex_pu (ls' := [vR 165, w_1, vI (v2 + (-1)), vI v3, vI v4, vI (M 166 ((315 + (2 * v4))).toNat), vI (M 172 (((v2 + (-1)) - 1)).toNat), vI (M 172 ((v2 + (-1))).toNat), j8]) (st' := [vI (M 172 (((v2 + (-1)) - 1)).toNat)]) (dg dc236 108 rfl) rfl rfl ?_
                refine ex_pu (ls' := [vR 165, w_1, vI (v2 + (-1)), vI v3, vI v4, vI (M 166 ((315 + (2 * v4))).toNat), vI (M 172 (((v2 + (-1)) - 1)).toNat), vI (M 172 ((v2 + (-1))).toNat), j8]) (st' := [vI (M 172 ((v2 + (-1))).toNat), vI (M 172 (((v2 + (-1)) - 1)).toNat)]) (dg dc236 109 rfl) rfl rfl ?_
                refine ex_pu (ls' := [vR 165, w_1, vI (v2 + (-1)), vI v3, vI v4, vI (M 166 ((315 + (2 * v4))).toNat), vI (M 172 (((v2 + (-1)) - 1)).toNat), vI (M 172 ((v2 + (-1))).toNat), j8]) (st' := [vI ((M 172 (((v2 + (-1)) - 1)).toNat) + (M 172 ((v2 + (-1))).toNat))]) (dg dc236 110 rfl) rfl rfl ?_
                refine ex_pu (ls' := [vR 165, w_1, vI (v2 + (-1)), vI v3, vI v4, vI (M 166 ((315 + (2 * v4))).toNat), vI (M 172 (((v2 + (-1)) - 1)).toNat), vI (M 172 ((v2 + (-1))).toNat), j8]) (st' := [vI 2, vI ((M 172 (((v2 + (-1)) - 1)).toNat) + (M 172 ((v2 + (-1))).toNat))]) (dg dc236 111 rfl) rfl rfl ?_
                refine ex_icmp (t := 201) (dg dc236 112 rfl) rfl hf (fun _ hf => ?_) (fun _ hf => ?_)
                · refine ex_pu (ls' := [vR 165, w_1, vI (v2 + (-1)), vI v3, vI v4, vI (M 166 ((315 + (2 * v4))).toNat), vI (M 172 (((v2 + (-1)) - 1)).toNat), vI (M 172 ((v2 + (-1))).toNat), j8]) (st' := [vI 0]) (dg dc236 115 rfl) rfl rfl ?_
                  refine ex_goto (t := 218) (dg dc236 116 rfl) rfl rfl ?_
                  exact mo_holdsLine_J218_ok hd  ih k1 (v2 + (-1)) v4 (M 166 ((315 + (2 * v4))).toNat) (M 172 (((v2 + (-1)) - 1)).toNat) (M 172 ((v2 + (-1))).toNat) 0 M _ _ hf
                · refine ex_pu (ls' := [vR 165, w_1, vI (v2 + (-1)), vI v3, vI v4, vI (M 166 ((315 + (2 * v4))).toNat), vI (M 172 (((v2 + (-1)) - 1)).toNat), vI (M 172 ((v2 + (-1))).toNat), j8]) (st' := [vI 1]) (dg dc236 113 rfl) rfl rfl ?_
                  refine ex_goto (t := 218) (dg dc236 114 rfl) rfl rfl ?_
                  exact mo_holdsLine_J218_ok hd  ih k1 (v2 + (-1)) v4 (M 166 ((315 + (2 * v4))).toNat) (M 172 (((v2 + (-1)) - 1)).toNat) (M 172 ((v2 + (-1))).toNat) 1 M _ _ hf
            · refine ex_pu (ls' := [vR 165, w_1, vI (v2 + (-1)), vI v3, vI v4, vI (M 166 ((315 + (2 * v4))).toNat), vI (M 172 (((v2 + (-1)) - 1)).toNat), vI (M 172 ((v2 + (-1))).toNat), j8]) (st' := [vI (M 172 (((v2 + (-1)) - 1)).toNat)]) (dg dc236 98 rfl) rfl rfl ?_
              refine ex_pu (ls' := [vR 165, w_1, vI (v2 + (-1)), vI v3, vI v4, vI (M 166 ((315 + (2 * v4))).toNat), vI (M 172 (((v2 + (-1)) - 1)).toNat), vI (M 172 ((v2 + (-1))).toNat), j8]) (st' := [vI (M 172 ((v2 + (-1))).toNat), vI (M 172 (((v2 + (-1)) - 1)).toNat)]) (dg dc236 99 rfl) rfl rfl ?_
              refine ex_icmp (t := 177) (dg dc236 100 rfl) rfl hf (fun _ hf => ?_) (fun _ hf => ?_)
              · refine ex_pu (ls' := [vR 165, w_1, vI (v2 + (-1)), vI v3, vI v4, vI (M 166 ((315 + (2 * v4))).toNat), vI (M 172 (((v2 + (-1)) - 1)).toNat), vI (M 172 ((v2 + (-1))).toNat), j8]) (st' := [vI 0]) (dg dc236 103 rfl) rfl rfl ?_
                refine ex_goto (t := 218) (dg dc236 104 rfl) rfl rfl ?_
                exact mo_holdsLine_J218_ok hd  ih k1 (v2 + (-1)) v4 (M 166 ((315 + (2 * v4))).toNat) (M 172 (((v2 + (-1)) - 1)).toNat) (M 172 ((v2 + (-1))).toNat) 0 M _ _ hf
              · refine ex_pu (ls' := [vR 165, w_1, vI (v2 + (-1)), vI v3, vI v4, vI (M 166 ((315 + (2 * v4))).toNat), vI (M 172 (((v2 + (-1)) - 1)).toNat), vI (M 172 ((v2 + (-1))).toNat), j8]) (st' := [vI 1]) (dg dc236 101 rfl) rfl rfl ?_
                refine ex_goto (t := 218) (dg dc236 102 rfl) rfl rfl ?_
                exact mo_holdsLine_J218_ok hd  ih k1 (v2 + (-1)) v4 (M 166 ((315 + (2 * v4))).toNat) (M 172 (((v2 + (-1)) - 1)).toNat) (M 172 ((v2 + (-1))).toNat) 1 M _ _ hf
          · refine ex_pu (ls' := [vR 165, w_1, vI (v2 + (-1)), vI v3, vI v4, vI (M 166 ((315 + (2 * v4))).toNat), vI (M 172 (((v2 + (-1)) - 1)).toNat), vI (M 172 ((v2 + (-1))).toNat), j8]) (st' := [vI (M 172 (((v2 + (-1)) - 1)).toNat)]) (dg dc236 88 rfl) rfl rfl ?_
            refine ex_pu (ls' := [vR 165, w_1, vI (v2 + (-1)), vI v3, vI v4, vI (M 166 ((315 + (2 * v4))).toNat), vI (M 172 (((v2 + (-1)) - 1)).toNat), vI (M 172 ((v2 + (-1))).toNat), j8]) (st' := [vI (M 172 ((v2 + (-1))).toNat), vI (M 172 (((v2 + (-1)) - 1)).toNat)]) (dg dc236 89 rfl) rfl rfl ?_
            refine ex_icmp (t := 155) (dg dc236 90 rfl) rfl hf (fun _ hf => ?_) (fun _ hf => ?_)
            · refine ex_pu (ls' := [vR 165, w_1, vI (v2 + (-1)), vI v3, vI v4, vI (M 166 ((315 + (2 * v4))).toNat), vI (M 172 (((v2 + (-1)) - 1)).toNat), vI (M 172 ((v2 + (-1))).toNat), j8]) (st' := [vI 0]) (dg dc236 93 rfl) rfl rfl ?_
              refine ex_goto (t := 218) (dg dc236 94 rfl) rfl rfl ?_
              exact mo_holdsLine_J218_ok hd  ih k1 (v2 + (-1)) v4 (M 166 ((315 + (2 * v4))).toNat) (M 172 (((v2 + (-1)) - 1)).toNat) (M 172 ((v2 + (-1))).toNat) 0 M _ _ hf
            · refine ex_pu (ls' := [vR 165, w_1, vI (v2 + (-1)), vI v3, vI v4, vI (M 166 ((315 + (2 * v4))).toNat), vI (M 172 (((v2 + (-1)) - 1)).toNat), vI (M 172 ((v2 + (-1))).toNat), j8]) (st' := [vI 1]) (dg dc236 91 rfl) rfl rfl ?_
              refine ex_goto (t := 218) (dg dc236 92 rfl) rfl rfl ?_
              exact mo_holdsLine_J218_ok hd  ih k1 (v2 + (-1)) v4 (M 166 ((315 + (2 * v4))).toNat) (M 172 (((v2 + (-1)) - 1)).toNat) (M 172 ((v2 + (-1))).toNat) 1 M _ _ hf
        · refine ex_pu (ls' := [vR 165, j1, vI v2, vI v3, vI v4, vI (M 166 ((315 + (2 * v4))).toNat), j6, j7, j8]) (st' := [vR 165]) (dg dc236 57 rfl) rfl rfl ?_
          refine ex_getO (dg dc236 58 rfl) rfl (LOC.st (Nat.le_of_ble_eq_true rfl) rfl) rfl ?_
          show EX Z _ 236 _ [vR 165, j1, vI v2, vI v3, vI v4, vI (M 166 ((315 + (2 * v4))).toNat), j6, j7, j8] [vR 172] _ _
          refine ex_pu (ls' := [vR 165, j1, vI v2, vI v3, vI v4, vI (M 166 ((315 + (2 * v4))).toNat), j6, j7, j8]) (st' := [vI v2, vR 172]) (dg dc236 59 rfl) rfl rfl ?_
          refine ex_pu (ls' := [vR 165, j1, vI v2, vI v3, vI v4, vI (M 166 ((315 + (2 * v4))).toNat), j6, j7, j8]) (st' := [vI 1, vI v2, vR 172]) (dg dc236 60 rfl) rfl rfl ?_
          refine ex_pu (ls' := [vR 165, j1, vI v2, vI v3, vI v4, vI (M 166 ((315 + (2 * v4))).toNat), j6, j7, j8]) (st' := [vI (v2 - 1), vR 172]) (dg dc236 61 rfl) rfl rfl ?_
          refine ex_pu (ls' := [vR 165, j1, vI v2, vI v3, vI v4, vI (M 166 ((315 + (2 * v4))).toNat), j6, j7, j8]) (st' := [vI 1, vI (v2 - 1), vR 172]) (dg dc236 62 rfl) rfl rfl ?_
          refine ex_pu (ls' := [vR 165, j1, vI v2, vI v3, vI v4, vI (M 166 ((315 + (2 * v4))).toNat), j6, j7, j8]) (st' := [vR 165, vI 1, vI (v2 - 1), vR 172]) (dg dc236 63 rfl) rfl rfl ?_
          refine ex_getO (dg dc236 64 rfl) rfl (LOC.st (Nat.le_of_ble_eq_true rfl) rfl) rfl ?_
          show EX Z _ 236 _ [vR 165, j1, vI v2, vI v3, vI v4, vI (M 166 ((315 + (2 * v4))).toNat), j6, j7, j8] [vR 172, vI 1, vI (v2 - 1), vR 172] _ _
          refine ex_pu (ls' := [vR 165, j1, vI v2, vI v3, vI v4, vI (M 166 ((315 + (2 * v4))).toNat), j6, j7, j8]) (st' := [vI v2, vR 172, vI 1, vI (v2 - 1), vR 172]) (dg dc236 65 rfl) rfl rfl ?_
          refine ex_pu (ls' := [vR 165, j1, vI v2, vI v3, vI v4, vI (M 166 ((315 + (2 * v4))).toNat), j6, j7, j8]) (st' := [vI 1, vI v2, vR 172, vI 1, vI (v2 - 1), vR 172]) (dg dc236 66 rfl) rfl rfl ?_
          refine ex_pu (ls' := [vR 165, j1, vI v2, vI v3, vI v4, vI (M 166 ((315 + (2 * v4))).toNat), j6, j7, j8]) (st' := [vI (v2 - 1), vR 172, vI 1, vI (v2 - 1), vR 172]) (dg dc236 67 rfl) rfl rfl ?_
          refine ex_iald (dg dc236 68 rfl) (LOC.st (Nat.le_of_ble_eq_true rfl) rfl) rfl hf (fun _ hf => ?_)
          refine ex_pu (ls' := [vR 165, j1, vI v2, vI v3, vI v4, vI (M 166 ((315 + (2 * v4))).toNat), j6, j7, j8]) (st' := [vI (1 - (M 172 ((v2 - 1)).toNat)), vI (v2 - 1), vR 172]) (dg dc236 69 rfl) rfl rfl ?_
          refine ex_iast (dg dc236 70 rfl) (LOC.st (Nat.le_of_ble_eq_true rfl) rfl) rfl rfl hf (fun _ hf => ?_)
          refine ex_gen hf (fun M_8 hM_9 hf => ?_)
          refine ex_goto (t := 253) (dg dc236 71 rfl) rfl rfl ?_
          refine ex_pu (ls' := [vR 165, j1, vI v2, vI v3, vI (v4 + 1), vI (M 166 ((315 + (2 * v4))).toNat), j6, j7, j8]) (st' := []) (dg dc236 143 rfl) rfl rfl ?_
          refine ex_goto (t := 20) (dg dc236 144 rfl) rfl rfl ?_
          exact ih v2 (v4 + 1) M_8 _ _ _ _ _ hf
      · refine ex_pu (ls' := [vR 165, j1, vI v2, vI v3, vI v4, vI (M 166 ((315 + (2 * v4))).toNat), j6, j7, j8]) (st' := [vR 165]) (dg dc236 35 rfl) rfl rfl ?_
        refine ex_getO (dg dc236 36 rfl) rfl (LOC.st (Nat.le_of_ble_eq_true rfl) rfl) rfl ?_
        show EX Z _ 236 _ [vR 165, j1, vI v2, vI v3, vI v4, vI (M 166 ((315 + (2 * v4))).toNat), j6, j7, j8] [vR 172] _ _
        refine ex_pu (ls' := [vR 165, j1, vI v2, vI v3, vI v4, vI (M 166 ((315 + (2 * v4))).toNat), j6, j7, j8]) (st' := [vI v2, vR 172]) (dg dc236 37 rfl) rfl rfl ?_
        refine ex_pu (ls' := [vR 165, j1, vI v2, vI v3, vI v4, vI (M 166 ((315 + (2 * v4))).toNat), j6, j7, j8]) (st' := [vR 165, vI v2, vR 172]) (dg dc236 38 rfl) rfl rfl ?_
        refine ex_pu (ls' := [vR 165, j1, vI v2, vI v3, vI v4, vI (M 166 ((315 + (2 * v4))).toNat), j6, j7, j8]) (st' := [vI (M 166 ((315 + (2 * v4))).toNat), vR 165, vI v2, vR 172]) (dg dc236 39 rfl) rfl rfl ?_
        refine ex_pu (ls' := [vR 165, j1, vI v2, vI v3, vI v4, vI (M 166 ((315 + (2 * v4))).toNat), j6, j7, j8]) (st' := [vR 165, vI (M 166 ((315 + (2 * v4))).toNat), vR 165, vI v2, vR 172]) (dg dc236 40 rfl) rfl rfl ?_
        refine ex_getO (dg dc236 41 rfl) rfl (LOC.st (Nat.le_of_ble_eq_true rfl) rfl) rfl ?_
        show EX Z _ 236 _ [vR 165, j1, vI v2, vI v3, vI v4, vI (M 166 ((315 + (2 * v4))).toNat), j6, j7, j8] [vR 166, vI (M 166 ((315 + (2 * v4))).toNat), vR 165, vI v2, vR 172] _ _
        refine ex_pu (ls' := [vR 165, j1, vI v2, vI v3, vI v4, vI (M 166 ((315 + (2 * v4))).toNat), j6, j7, j8]) (st' := [vI 315, vR 166, vI (M 166 ((315 + (2 * v4))).toNat), vR 165, vI v2, vR 172]) (dg dc236 42 rfl) rfl rfl ?_
        refine ex_pu (ls' := [vR 165, j1, vI v2, vI v3, vI v4, vI (M 166 ((315 + (2 * v4))).toNat), j6, j7, j8]) (st' := [vI 2, vI 315, vR 166, vI (M 166 ((315 + (2 * v4))).toNat), vR 165, vI v2, vR 172]) (dg dc236 43 rfl) rfl rfl ?_
        refine ex_pu (ls' := [vR 165, j1, vI v2, vI v3, vI v4, vI (M 166 ((315 + (2 * v4))).toNat), j6, j7, j8]) (st' := [vI v4, vI 2, vI 315, vR 166, vI (M 166 ((315 + (2 * v4))).toNat), vR 165, vI v2, vR 172]) (dg dc236 44 rfl) rfl rfl ?_
        refine ex_pu (ls' := [vR 165, j1, vI v2, vI v3, vI v4, vI (M 166 ((315 + (2 * v4))).toNat), j6, j7, j8]) (st' := [vI (2 * v4), vI 315, vR 166, vI (M 166 ((315 + (2 * v4))).toNat), vR 165, vI v2, vR 172]) (dg dc236 45 rfl) rfl rfl ?_
        refine ex_pu (ls' := [vR 165, j1, vI v2, vI v3, vI v4, vI (M 166 ((315 + (2 * v4))).toNat), j6, j7, j8]) (st' := [vI (315 + (2 * v4)), vR 166, vI (M 166 ((315 + (2 * v4))).toNat), vR 165, vI v2, vR 172]) (dg dc236 46 rfl) rfl rfl ?_
        refine ex_pu (ls' := [vR 165, j1, vI v2, vI v3, vI v4, vI (M 166 ((315 + (2 * v4))).toNat), j6, j7, j8]) (st' := [vI 1, vI (315 + (2 * v4)), vR 166, vI (M 166 ((315 + (2 * v4))).toNat), vR 165, vI v2, vR 172]) (dg dc236 47 rfl) rfl rfl ?_
        refine ex_pu (ls' := [vR 165, j1, vI v2, vI v3, vI v4, vI (M 166 ((315 + (2 * v4))).toNat), j6, j7, j8]) (st' := [vI ((315 + (2 * v4)) + 1), vR 166, vI (M 166 ((315 + (2 * v4))).toNat), vR 165, vI v2, vR 172]) (dg dc236 48 rfl) rfl rfl ?_
        refine ex_iald (dg dc236 49 rfl) (LOC.st (Nat.le_of_ble_eq_true rfl) rfl) rfl hf (fun _ hf => ?_)
        refine ex_cI (vs := [vR 165, vI (M 166 ((315 + (2 * v4))).toNat), vI (M 166 (((315 + (2 * v4)) + 1)).toNat)]) (st' := [vI v2, vR 172]) (F := (mo_factOf (M 166 ((315 + (2 * v4))).toNat) (M 166 (((315 + (2 * v4)) + 1)).toNat) M)) (Or.inr (Or.inl ⟨rfl, (dg dc236 50 rfl)⟩)) rfl rfl (rk1 (LOC.st (Nat.le_of_ble_eq_true rfl) rfl) rfl) rfl (fun _ r9 => mo_factOf_ok (Z := Z) (d := e9) (by omega)  r9) hf (fun z_12 M_11 he_10 hf => ?_)
        refine ex_iast (dg dc236 51 rfl) (LOC.st (Nat.le_of_ble_eq_true rfl) rfl) rfl rfl hf (fun _ hf => ?_)
        refine ex_gen hf (fun M_13 hM_14 hf => ?_)
        refine ex_incD (dg dc236 52 rfl) rfl rfl (fun w_15 => ?_)
        show EX Z _ 236 _ [vR 165, w_15, vI (v2 + 1), vI v3, vI v4, vI (M 166 ((315 + (2 * v4))).toNat), j6, j7, j8] [] _ _
        refine ex_goto (t := 253) (dg dc236 53 rfl) rfl rfl ?_
        refine ex_pu (ls' := [vR 165, w_15, vI (v2 + 1), vI v3, vI (v4 + 1), vI (M 166 ((315 + (2 * v4))).toNat), j6, j7, j8]) (st' := []) (dg dc236 143 rfl) rfl rfl ?_
        refine ex_goto (t := 20) (dg dc236 144 rfl) rfl rfl ?_
        exact ih (v2 + 1) (v4 + 1) M_13 _ _ _ _ _ hf
def mo_holdsLine (v1 : Int) (M : MM) : OR :=
  (bif inB ((267 + (4 * v1)) + 2) 1964 then (mo_holdsLine_L20 (267 + (4 * v1)) (fun v2_16 M_17 => (bif cmpB .eq v2_16 0 then some (rI 1, M_17) else (bif inB 0 400 then (bif cmpB .ne (M_17 172 0) 1 then some (rI 0, M_17) else some (rI 1, M_17)) else none))) FU 0 (M 166 (((267 + (4 * v1)) + 2)).toNat) M) else none)
set_option maxRecDepth 4000 in
theorem mo_holdsLine_ok {Z : Nat × (Nat → Int)} {d : Nat} (hd : 1 ≤ d) {M : MM}  {v1 : Int} {res : AR × MM} (hf : mo_holdsLine v1 M = some res) : EX Z d 236 0 (ent 236 [vR 165, vI v1]) [] M res := by
  obtain ⟨e9, rfl⟩ : ∃ e9, d = e9 + 1 := ⟨d - 1, by omega⟩
  unfold mo_holdsLine at hf
  show EX Z _ 236 0 [vR 165, vI v1, vU, vU, vU, vU, vU, vU, vU] [] M res
  refine ex_pu (ls' := [vR 165, vI v1, vU, vU, vU, vU, vU, vU, vU]) (st' := [vI 0]) (dg dc236 0 rfl) rfl rfl ?_
  refine ex_pu (ls' := [vR 165, vI v1, vI 0, vU, vU, vU, vU, vU, vU]) (st' := []) (dg dc236 1 rfl) rfl rfl ?_
  refine ex_pu (ls' := [vR 165, vI v1, vI 0, vU, vU, vU, vU, vU, vU]) (st' := [vI 267]) (dg dc236 2 rfl) rfl rfl ?_
  refine ex_pu (ls' := [vR 165, vI v1, vI 0, vU, vU, vU, vU, vU, vU]) (st' := [vI 4, vI 267]) (dg dc236 3 rfl) rfl rfl ?_
  refine ex_pu (ls' := [vR 165, vI v1, vI 0, vU, vU, vU, vU, vU, vU]) (st' := [vI v1, vI 4, vI 267]) (dg dc236 4 rfl) rfl rfl ?_
  refine ex_pu (ls' := [vR 165, vI v1, vI 0, vU, vU, vU, vU, vU, vU]) (st' := [vI (4 * v1), vI 267]) (dg dc236 5 rfl) rfl rfl ?_
  refine ex_pu (ls' := [vR 165, vI v1, vI 0, vU, vU, vU, vU, vU, vU]) (st' := [vI (267 + (4 * v1))]) (dg dc236 6 rfl) rfl rfl ?_
  refine ex_pu (ls' := [vR 165, vI v1, vI 0, vI (267 + (4 * v1)), vU, vU, vU, vU, vU]) (st' := []) (dg dc236 7 rfl) rfl rfl ?_
  refine ex_pu (ls' := [vR 165, vI v1, vI 0, vI (267 + (4 * v1)), vU, vU, vU, vU, vU]) (st' := [vR 165]) (dg dc236 8 rfl) rfl rfl ?_
  refine ex_getO (dg dc236 9 rfl) rfl (LOC.st (Nat.le_of_ble_eq_true rfl) rfl) rfl ?_
  show EX Z _ 236 _ [vR 165, vI v1, vI 0, vI (267 + (4 * v1)), vU, vU, vU, vU, vU] [vR 166] _ _
  refine ex_pu (ls' := [vR 165, vI v1, vI 0, vI (267 + (4 * v1)), vU, vU, vU, vU, vU]) (st' := [vI (267 + (4 * v1)), vR 166]) (dg dc236 10 rfl) rfl rfl ?_
  refine ex_pu (ls' := [vR 165, vI v1, vI 0, vI (267 + (4 * v1)), vU, vU, vU, vU, vU]) (st' := [vI 2, vI (267 + (4 * v1)), vR 166]) (dg dc236 11 rfl) rfl rfl ?_
  refine ex_pu (ls' := [vR 165, vI v1, vI 0, vI (267 + (4 * v1)), vU, vU, vU, vU, vU]) (st' := [vI ((267 + (4 * v1)) + 2), vR 166]) (dg dc236 12 rfl) rfl rfl ?_
  refine ex_iald (dg dc236 13 rfl) (LOC.st (Nat.le_of_ble_eq_true rfl) rfl) rfl hf (fun _ hf => ?_)
  refine ex_pu (ls' := [vR 165, vI v1, vI 0, vI (267 + (4 * v1)), vI (M 166 (((267 + (4 * v1)) + 2)).toNat), vU, vU, vU, vU]) (st' := []) (dg dc236 14 rfl) rfl rfl ?_
  refine mo_holdsLine_L20_ok hd  ?_ FU 0 (M 166 (((267 + (4 * v1)) + 2)).toNat) M _ _ _ _ _ hf
  · intro v2_16 M_17 j1_18 j3_19 j4_20 j5_21 j6_22 j7_23 j8_24 hf
    refine ex_pu (ls' := [vR 165, j1_18, vI v2_16, j3_19, j4_20, j5_21, j6_22, j7_23, j8_24]) (st' := [vI v2_16]) (dg dc236 145 rfl) rfl rfl ?_
    refine ex_if (t := 273) (dg dc236 146 rfl) rfl hf (fun _ hf => ?_) (fun _ hf => ?_)
    · refine ex_pu (ls' := [vR 165, j1_18, vI v2_16, j3_19, j4_20, j5_21, j6_22, j7_23, j8_24]) (st' := [vI 1]) (dg dc236 153 rfl) rfl rfl ?_
      refine ex_goto (t := 278) (dg dc236 154 rfl) rfl rfl ?_
      exact ex_ire (dg dc236 156 rfl) rfl hf
    · refine ex_pu (ls' := [vR 165, j1_18, vI v2_16, j3_19, j4_20, j5_21, j6_22, j7_23, j8_24]) (st' := [vR 165]) (dg dc236 147 rfl) rfl rfl ?_
      refine ex_getO (dg dc236 148 rfl) rfl (LOC.st (Nat.le_of_ble_eq_true rfl) rfl) rfl ?_
      show EX Z _ 236 _ [vR 165, j1_18, vI v2_16, j3_19, j4_20, j5_21, j6_22, j7_23, j8_24] [vR 172] _ _
      refine ex_pu (ls' := [vR 165, j1_18, vI v2_16, j3_19, j4_20, j5_21, j6_22, j7_23, j8_24]) (st' := [vI 0, vR 172]) (dg dc236 149 rfl) rfl rfl ?_
      refine ex_iald (dg dc236 150 rfl) (LOC.st (Nat.le_of_ble_eq_true rfl) rfl) rfl hf (fun _ hf => ?_)
      refine ex_pu (ls' := [vR 165, j1_18, vI v2_16, j3_19, j4_20, j5_21, j6_22, j7_23, j8_24]) (st' := [vI 1, vI (M_17 172 0)]) (dg dc236 151 rfl) rfl rfl ?_
      refine ex_icmp (t := 277) (dg dc236 152 rfl) rfl hf (fun _ hf => ?_) (fun _ hf => ?_)
      · refine ex_pu (ls' := [vR 165, j1_18, vI v2_16, j3_19, j4_20, j5_21, j6_22, j7_23, j8_24]) (st' := [vI 0]) (dg dc236 155 rfl) rfl rfl ?_
        exact ex_ire (dg dc236 156 rfl) rfl hf
      · refine ex_pu (ls' := [vR 165, j1_18, vI v2_16, j3_19, j4_20, j5_21, j6_22, j7_23, j8_24]) (st' := [vI 1]) (dg dc236 153 rfl) rfl rfl ?_
        refine ex_goto (t := 278) (dg dc236 154 rfl) rfl rfl ?_
        exact ex_ire (dg dc236 156 rfl) rfl hf
-- GlassHillModel.sumOf
def il237 : List (Nat × Instr × Nat) := [(0, .iconst 0, 1), (1, .istore_n 2, 1), (2, .iconst 0, 1), (3, .istore_n 3, 1), (4, .aload_n 0, 1), (5, .getfield 13, 3), (8, .iconst 5, 1), (9, .iaload, 1), (10, .iconst 1, 1), (11, .if_icmp .ne 66, 3), (14, .iload_n 3, 1), (15, .aload_n 0, 1), (16, .getfield 13, 3), (19, .sipush 266, 3), (22, .iaload, 1), (23, .if_icmp .ge 54, 3), (26, .iload_n 2, 1), (27, .aload_n 0, 1), (28, .getfield 13, 3), (31, .sipush 267, 3), (34, .iconst 4, 1), (35, .iload_n 3, 1), (36, .imul, 1), (37, .iadd, 1), (38, .iaload, 1), (39, .iload_n 1, 1), (40, .if_icmp .ne 28, 3), (43, .aload_n 0, 1), (44, .iload_n 3, 1), (45, .invokevirtual 349, 3), (48, .ifCond .eq 20, 3), (51, .aload_n 0, 1), (52, .getfield 13, 3), (55, .sipush 267, 3), (58, .iconst 4, 1), (59, .iload_n 3, 1), (60, .imul, 1), (61, .iadd, 1), (62, .iconst 1, 1), (63, .iadd, 1), (64, .iaload, 1), (65, .goto 4, 3), (68, .iconst 0, 1), (69, .iadd, 1), (70, .istore_n 2, 1), (71, .iinc 3 1, 3), (74, .goto (-70), 3), (77, .iload_n 2, 1), (78, .ireturn, 1)]
theorem dc237 : dcs (mC 237) il237 := dc_of (by decide +kernel)
def mo_sumOf_L4  (v1 : Int) (K1 : Int → MM → OR) : Nat → Int → Int → MM → OR
  | 0, _, _, _ => none
  | n + 1, v2, v3, M => (bif inB 5 1964 then (bif cmpB .ne (M 166 5) 1 then (K1 v2 M) else (bif inB 266 1964 then (bif cmpB .ge v3 (M 166 266) then (K1 v2 M) else (bif inB (267 + (4 * v3)) 1964 then (bif cmpB .ne (M 166 ((267 + (4 * v3))).toNat) v1 then (mo_sumOf_L4 v1 K1 n (v2 + 0) (v3 + 1) M) else (bI (mo_holdsLine v3 M) fun z_3 M_2 => (bif cmpB .eq z_3 0 then (mo_sumOf_L4 v1 K1 n (v2 + 0) (v3 + 1) M_2) else (bif inB ((267 + (4 * v3)) + 1) 1964 then (mo_sumOf_L4 v1 K1 n (v2 + (M_2 166 (((267 + (4 * v3)) + 1)).toNat)) (v3 + 1) M_2) else none)))) else none)) else none)) else none)
set_option maxRecDepth 4000 in
theorem mo_sumOf_L4_ok {Z : Nat × (Nat → Int)} {d : Nat} (hd : 2 ≤ d)  {v1 : Int} {K1 : Int → MM → OR} {res : AR × MM} (k1 : ∀ (x2 : Int) (M : MM) (j0 j1 j3 : AV), K1 x2 M = some res → EX Z d 237 77 [j0, j1, vI x2, j3] [] M res) : ∀ (n : Nat) (v2 v3 : Int) (M : MM), mo_sumOf_L4 v1 K1 n v2 v3 M = some res → EX Z d 237 4 [vR 165, vI v1, vI v2, vI v3] [] M res := by
  obtain ⟨e9, rfl⟩ : ∃ e9, d = e9 + 1 := ⟨d - 1, by omega⟩
  intro n
  induction n with
  | zero =>
    intro v2 v3 M hf
    unfold mo_sumOf_L4 at hf
    cases hf
  | succ n ih =>
    intro v2 v3 M hf
    unfold mo_sumOf_L4 at hf
    refine ex_pu (ls' := [vR 165, vI v1, vI v2, vI v3]) (st' := [vR 165]) (dg dc237 4 rfl) rfl rfl ?_
    refine ex_getO (dg dc237 5 rfl) rfl (LOC.st (Nat.le_of_ble_eq_true rfl) rfl) rfl ?_
    show EX Z _ 237 _ [vR 165, vI v1, vI v2, vI v3] [vR 166] _ _
    refine ex_pu (ls' := [vR 165, vI v1, vI v2, vI v3]) (st' := [vI 5, vR 166]) (dg dc237 6 rfl) rfl rfl ?_
    refine ex_iald (dg dc237 7 rfl) (LOC.st (Nat.le_of_ble_eq_true rfl) rfl) rfl hf (fun _ hf => ?_)
    refine ex_pu (ls' := [vR 165, vI v1, vI v2, vI v3]) (st' := [vI 1, vI (M 166 5)]) (dg dc237 8 rfl) rfl rfl ?_
    refine ex_icmp (t := 77) (dg dc237 9 rfl) rfl hf (fun _ hf => ?_) (fun _ hf => ?_)
    · exact k1 v2 M _ _ _ hf
    · refine ex_pu (ls' := [vR 165, vI v1, vI v2, vI v3]) (st' := [vI v3]) (dg dc237 10 rfl) rfl rfl ?_
      refine ex_pu (ls' := [vR 165, vI v1, vI v2, vI v3]) (st' := [vR 165, vI v3]) (dg dc237 11 rfl) rfl rfl ?_
      refine ex_getO (dg dc237 12 rfl) rfl (LOC.st (Nat.le_of_ble_eq_true rfl) rfl) rfl ?_
      show EX Z _ 237 _ [vR 165, vI v1, vI v2, vI v3] [vR 166, vI v3] _ _
      refine ex_pu (ls' := [vR 165, vI v1, vI v2, vI v3]) (st' := [vI 266, vR 166, vI v3]) (dg dc237 13 rfl) rfl rfl ?_
      refine ex_iald (dg dc237 14 rfl) (LOC.st (Nat.le_of_ble_eq_true rfl) rfl) rfl hf (fun _ hf => ?_)
      refine ex_icmp (t := 77) (dg dc237 15 rfl) rfl hf (fun _ hf => ?_) (fun _ hf => ?_)
      · exact k1 v2 M _ _ _ hf
      · refine ex_pu (ls' := [vR 165, vI v1, vI v2, vI v3]) (st' := [vI v2]) (dg dc237 16 rfl) rfl rfl ?_
        refine ex_pu (ls' := [vR 165, vI v1, vI v2, vI v3]) (st' := [vR 165, vI v2]) (dg dc237 17 rfl) rfl rfl ?_
        refine ex_getO (dg dc237 18 rfl) rfl (LOC.st (Nat.le_of_ble_eq_true rfl) rfl) rfl ?_
        show EX Z _ 237 _ [vR 165, vI v1, vI v2, vI v3] [vR 166, vI v2] _ _
        refine ex_pu (ls' := [vR 165, vI v1, vI v2, vI v3]) (st' := [vI 267, vR 166, vI v2]) (dg dc237 19 rfl) rfl rfl ?_
        refine ex_pu (ls' := [vR 165, vI v1, vI v2, vI v3]) (st' := [vI 4, vI 267, vR 166, vI v2]) (dg dc237 20 rfl) rfl rfl ?_
        refine ex_pu (ls' := [vR 165, vI v1, vI v2, vI v3]) (st' := [vI v3, vI 4, vI 267, vR 166, vI v2]) (dg dc237 21 rfl) rfl rfl ?_
        refine ex_pu (ls' := [vR 165, vI v1, vI v2, vI v3]) (st' := [vI (4 * v3), vI 267, vR 166, vI v2]) (dg dc237 22 rfl) rfl rfl ?_
        refine ex_pu (ls' := [vR 165, vI v1, vI v2, vI v3]) (st' := [vI (267 + (4 * v3)), vR 166, vI v2]) (dg dc237 23 rfl) rfl rfl ?_
        refine ex_iald (dg dc237 24 rfl) (LOC.st (Nat.le_of_ble_eq_true rfl) rfl) rfl hf (fun _ hf => ?_)
        refine ex_pu (ls' := [vR 165, vI v1, vI v2, vI v3]) (st' := [vI v1, vI (M 166 ((267 + (4 * v3))).toNat), vI v2]) (dg dc237 25 rfl) rfl rfl ?_
        refine ex_icmp (t := 68) (dg dc237 26 rfl) rfl hf (fun _ hf => ?_) (fun _ hf => ?_)
        · refine ex_pu (ls' := [vR 165, vI v1, vI v2, vI v3]) (st' := [vI 0, vI v2]) (dg dc237 42 rfl) rfl rfl ?_
          refine ex_pu (ls' := [vR 165, vI v1, vI v2, vI v3]) (st' := [vI (v2 + 0)]) (dg dc237 43 rfl) rfl rfl ?_
          refine ex_pu (ls' := [vR 165, vI v1, vI (v2 + 0), vI v3]) (st' := []) (dg dc237 44 rfl) rfl rfl ?_
          refine ex_pu (ls' := [vR 165, vI v1, vI (v2 + 0), vI (v3 + 1)]) (st' := []) (dg dc237 45 rfl) rfl rfl ?_
          refine ex_goto (t := 4) (dg dc237 46 rfl) rfl rfl ?_
          exact ih (v2 + 0) (v3 + 1) M hf
        · refine ex_pu (ls' := [vR 165, vI v1, vI v2, vI v3]) (st' := [vR 165, vI v2]) (dg dc237 27 rfl) rfl rfl ?_
          refine ex_pu (ls' := [vR 165, vI v1, vI v2, vI v3]) (st' := [vI v3, vR 165, vI v2]) (dg dc237 28 rfl) rfl rfl ?_
          refine ex_cI (vs := [vR 165, vI v3]) (st' := [vI v2]) (F := (mo_holdsLine v3 M)) (Or.inr (Or.inl ⟨rfl, (dg dc237 29 rfl)⟩)) rfl rfl (rk1 (LOC.st (Nat.le_of_ble_eq_true rfl) rfl) rfl) rfl (fun _ r9 => mo_holdsLine_ok (Z := Z) (d := e9) (by omega)  r9) hf (fun z_3 M_2 he_1 hf => ?_)
          refine ex_if (t := 68) (dg dc237 30 rfl) rfl hf (fun _ hf => ?_) (fun _ hf => ?_)
          · refine ex_pu (ls' := [vR 165, vI v1, vI v2, vI v3]) (st' := [vI 0, vI v2]) (dg dc237 42 rfl) rfl rfl ?_
            refine ex_pu (ls' := [vR 165, vI v1, vI v2, vI v3]) (st' := [vI (v2 + 0)]) (dg dc237 43 rfl) rfl rfl ?_
            refine ex_pu (ls' := [vR 165, vI v1, vI (v2 + 0), vI v3]) (st' := []) (dg dc237 44 rfl) rfl rfl ?_
            refine ex_pu (ls' := [vR 165, vI v1, vI (v2 + 0), vI (v3 + 1)]) (st' := []) (dg dc237 45 rfl) rfl rfl ?_
            refine ex_goto (t := 4) (dg dc237 46 rfl) rfl rfl ?_
            exact ih (v2 + 0) (v3 + 1) M_2 hf
          · refine ex_pu (ls' := [vR 165, vI v1, vI v2, vI v3]) (st' := [vR 165, vI v2]) (dg dc237 31 rfl) rfl rfl ?_
            refine ex_getO (dg dc237 32 rfl) rfl (LOC.st (Nat.le_of_ble_eq_true rfl) rfl) rfl ?_
            show EX Z _ 237 _ [vR 165, vI v1, vI v2, vI v3] [vR 166, vI v2] _ _
            refine ex_pu (ls' := [vR 165, vI v1, vI v2, vI v3]) (st' := [vI 267, vR 166, vI v2]) (dg dc237 33 rfl) rfl rfl ?_
            refine ex_pu (ls' := [vR 165, vI v1, vI v2, vI v3]) (st' := [vI 4, vI 267, vR 166, vI v2]) (dg dc237 34 rfl) rfl rfl ?_
            refine ex_pu (ls' := [vR 165, vI v1, vI v2, vI v3]) (st' := [vI v3, vI 4, vI 267, vR 166, vI v2]) (dg dc237 35 rfl) rfl rfl ?_
            refine ex_pu (ls' := [vR 165, vI v1, vI v2, vI v3]) (st' := [vI (4 * v3), vI 267, vR 166, vI v2]) (dg dc237 36 rfl) rfl rfl ?_
            refine ex_pu (ls' := [vR 165, vI v1, vI v2, vI v3]) (st' := [vI (267 + (4 * v3)), vR 166, vI v2]) (dg dc237 37 rfl) rfl rfl ?_
            refine ex_pu (ls' := [vR 165, vI v1, vI v2, vI v3]) (st' := [vI 1, vI (267 + (4 * v3)), vR 166, vI v2]) (dg dc237 38 rfl) rfl rfl ?_
            refine ex_pu (ls' := [vR 165, vI v1, vI v2, vI v3]) (st' := [vI ((267 + (4 * v3)) + 1), vR 166, vI v2]) (dg dc237 39 rfl) rfl rfl ?_
            refine ex_iald (dg dc237 40 rfl) (LOC.st (Nat.le_of_ble_eq_true rfl) rfl) rfl hf (fun _ hf => ?_)
            refine ex_goto (t := 69) (dg dc237 41 rfl) rfl rfl ?_
            refine ex_pu (ls' := [vR 165, vI v1, vI v2, vI v3]) (st' := [vI (v2 + (M_2 166 (((267 + (4 * v3)) + 1)).toNat))]) (dg dc237 43 rfl) rfl rfl ?_
            refine ex_pu (ls' := [vR 165, vI v1, vI (v2 + (M_2 166 (((267 + (4 * v3)) + 1)).toNat)), vI v3]) (st' := []) (dg dc237 44 rfl) rfl rfl ?_
            refine ex_pu (ls' := [vR 165, vI v1, vI (v2 + (M_2 166 (((267 + (4 * v3)) + 1)).toNat)), vI (v3 + 1)]) (st' := []) (dg dc237 45 rfl) rfl rfl ?_
            refine ex_goto (t := 4) (dg dc237 46 rfl) rfl rfl ?_
            exact ih (v2 + (M_2 166 (((267 + (4 * v3)) + 1)).toNat)) (v3 + 1) M_2 hf
def mo_sumOf (v1 : Int) (M : MM) : OR :=
  (mo_sumOf_L4 v1 (fun v2_4 M_5 => some (rI v2_4, M_5)) FU 0 0 M)
set_option maxRecDepth 4000 in
theorem mo_sumOf_ok {Z : Nat × (Nat → Int)} {d : Nat} (hd : 2 ≤ d) {M : MM}  {v1 : Int} {res : AR × MM} (hf : mo_sumOf v1 M = some res) : EX Z d 237 0 (ent 237 [vR 165, vI v1]) [] M res := by
  obtain ⟨e9, rfl⟩ : ∃ e9, d = e9 + 1 := ⟨d - 1, by omega⟩
  unfold mo_sumOf at hf
  show EX Z _ 237 0 [vR 165, vI v1, vU, vU] [] M res
  refine ex_pu (ls' := [vR 165, vI v1, vU, vU]) (st' := [vI 0]) (dg dc237 0 rfl) rfl rfl ?_
  refine ex_pu (ls' := [vR 165, vI v1, vI 0, vU]) (st' := []) (dg dc237 1 rfl) rfl rfl ?_
  refine ex_pu (ls' := [vR 165, vI v1, vI 0, vU]) (st' := [vI 0]) (dg dc237 2 rfl) rfl rfl ?_
  refine ex_pu (ls' := [vR 165, vI v1, vI 0, vI 0]) (st' := []) (dg dc237 3 rfl) rfl rfl ?_
  refine mo_sumOf_L4_ok hd  ?_ FU 0 0 M hf
  · intro v2_4 M_5 j0_6 j1_7 j3_8 hf
    refine ex_pu (ls' := [j0_6, j1_7, vI v2_4, j3_8]) (st' := [vI v2_4]) (dg dc237 47 rfl) rfl rfl ?_
    exact ex_ire (dg dc237 48 rfl) rfl hf
-- GlassHillModel.otherEnd
def il238 : List (Nat × Instr × Nat) := [(0, .aload_n 0, 1), (1, .iload_n 1, 1), (2, .iconst 0, 1), (3, .invokevirtual 352, 3), (6, .iload_n 2, 1), (7, .if_icmp .ne 12, 3), (10, .aload_n 0, 1), (11, .iload_n 1, 1), (12, .iconst 1, 1), (13, .invokevirtual 352, 3), (16, .goto 23, 3), (19, .aload_n 0, 1), (20, .iload_n 1, 1), (21, .iconst 1, 1), (22, .invokevirtual 352, 3), (25, .iload_n 2, 1), (26, .if_icmp .ne 12, 3), (29, .aload_n 0, 1), (30, .iload_n 1, 1), (31, .iconst 0, 1), (32, .invokevirtual 352, 3), (35, .goto 4, 3), (38, .iconst (-1), 1), (39, .ireturn, 1)]
theorem dc238 : dcs (mC 238) il238 := dc_of (by decide +kernel)
def mo_otherEnd (v1 : Int) (v2 : Int) (M : MM) : OR :=
  (bI (mo_ofRoad v1 0 M) fun z_3 M_2 => (bif cmpB .ne z_3 v2 then (bI (mo_ofRoad v1 1 M_2) fun z_6 M_5 => (bif cmpB .ne z_6 v2 then some (rI (-1), M_5) else (bI (mo_ofRoad v1 0 M_5) fun z_9 M_8 => some (rI z_9, M_8)))) else (bI (mo_ofRoad v1 1 M_2) fun z_12 M_11 => some (rI z_12, M_11))))
set_option maxRecDepth 4000 in
theorem mo_otherEnd_ok {Z : Nat × (Nat → Int)} {d : Nat} (hd : 1 ≤ d) {M : MM}  {v1 v2 : Int} {res : AR × MM} (hf : mo_otherEnd v1 v2 M = some res) : EX Z d 238 0 (ent 238 [vR 165, vI v1, vI v2]) [] M res := by
  obtain ⟨e9, rfl⟩ : ∃ e9, d = e9 + 1 := ⟨d - 1, by omega⟩
  unfold mo_otherEnd at hf
  show EX Z _ 238 0 [vR 165, vI v1, vI v2] [] M res
  refine ex_pu (ls' := [vR 165, vI v1, vI v2]) (st' := [vR 165]) (dg dc238 0 rfl) rfl rfl ?_
  refine ex_pu (ls' := [vR 165, vI v1, vI v2]) (st' := [vI v1, vR 165]) (dg dc238 1 rfl) rfl rfl ?_
  refine ex_pu (ls' := [vR 165, vI v1, vI v2]) (st' := [vI 0, vI v1, vR 165]) (dg dc238 2 rfl) rfl rfl ?_
  refine ex_cI (vs := [vR 165, vI v1, vI 0]) (st' := []) (F := (mo_ofRoad v1 0 M)) (Or.inr (Or.inl ⟨rfl, (dg dc238 3 rfl)⟩)) rfl rfl (rk1 (LOC.st (Nat.le_of_ble_eq_true rfl) rfl) rfl) rfl (fun _ r9 => mo_ofRoad_ok (Z := Z) (d := e9) (by omega)  r9) hf (fun z_3 M_2 he_1 hf => ?_)
  refine ex_pu (ls' := [vR 165, vI v1, vI v2]) (st' := [vI v2, vI z_3]) (dg dc238 4 rfl) rfl rfl ?_
  refine ex_icmp (t := 19) (dg dc238 5 rfl) rfl hf (fun _ hf => ?_) (fun _ hf => ?_)
  · refine ex_pu (ls' := [vR 165, vI v1, vI v2]) (st' := [vR 165]) (dg dc238 11 rfl) rfl rfl ?_
    refine ex_pu (ls' := [vR 165, vI v1, vI v2]) (st' := [vI v1, vR 165]) (dg dc238 12 rfl) rfl rfl ?_
    refine ex_pu (ls' := [vR 165, vI v1, vI v2]) (st' := [vI 1, vI v1, vR 165]) (dg dc238 13 rfl) rfl rfl ?_
    refine ex_cI (vs := [vR 165, vI v1, vI 1]) (st' := []) (F := (mo_ofRoad v1 1 M_2)) (Or.inr (Or.inl ⟨rfl, (dg dc238 14 rfl)⟩)) rfl rfl (rk1 (LOC.st (Nat.le_of_ble_eq_true rfl) rfl) rfl) rfl (fun _ r9 => mo_ofRoad_ok (Z := Z) (d := e9) (by omega)  r9) hf (fun z_6 M_5 he_4 hf => ?_)
    refine ex_pu (ls' := [vR 165, vI v1, vI v2]) (st' := [vI v2, vI z_6]) (dg dc238 15 rfl) rfl rfl ?_
    refine ex_icmp (t := 38) (dg dc238 16 rfl) rfl hf (fun _ hf => ?_) (fun _ hf => ?_)
    · refine ex_pu (ls' := [vR 165, vI v1, vI v2]) (st' := [vI (-1)]) (dg dc238 22 rfl) rfl rfl ?_
      exact ex_ire (dg dc238 23 rfl) rfl hf
    · refine ex_pu (ls' := [vR 165, vI v1, vI v2]) (st' := [vR 165]) (dg dc238 17 rfl) rfl rfl ?_
      refine ex_pu (ls' := [vR 165, vI v1, vI v2]) (st' := [vI v1, vR 165]) (dg dc238 18 rfl) rfl rfl ?_
      refine ex_pu (ls' := [vR 165, vI v1, vI v2]) (st' := [vI 0, vI v1, vR 165]) (dg dc238 19 rfl) rfl rfl ?_
      refine ex_cI (vs := [vR 165, vI v1, vI 0]) (st' := []) (F := (mo_ofRoad v1 0 M_5)) (Or.inr (Or.inl ⟨rfl, (dg dc238 20 rfl)⟩)) rfl rfl (rk1 (LOC.st (Nat.le_of_ble_eq_true rfl) rfl) rfl) rfl (fun _ r9 => mo_ofRoad_ok (Z := Z) (d := e9) (by omega)  r9) hf (fun z_9 M_8 he_7 hf => ?_)
      refine ex_goto (t := 39) (dg dc238 21 rfl) rfl rfl ?_
      exact ex_ire (dg dc238 23 rfl) rfl hf
  · refine ex_pu (ls' := [vR 165, vI v1, vI v2]) (st' := [vR 165]) (dg dc238 6 rfl) rfl rfl ?_
    refine ex_pu (ls' := [vR 165, vI v1, vI v2]) (st' := [vI v1, vR 165]) (dg dc238 7 rfl) rfl rfl ?_
    refine ex_pu (ls' := [vR 165, vI v1, vI v2]) (st' := [vI 1, vI v1, vR 165]) (dg dc238 8 rfl) rfl rfl ?_
    refine ex_cI (vs := [vR 165, vI v1, vI 1]) (st' := []) (F := (mo_ofRoad v1 1 M_2)) (Or.inr (Or.inl ⟨rfl, (dg dc238 9 rfl)⟩)) rfl rfl (rk1 (LOC.st (Nat.le_of_ble_eq_true rfl) rfl) rfl) rfl (fun _ r9 => mo_ofRoad_ok (Z := Z) (d := e9) (by omega)  r9) hf (fun z_12 M_11 he_10 hf => ?_)
    refine ex_goto (t := 39) (dg dc238 10 rfl) rfl rfl ?_
    exact ex_ire (dg dc238 23 rfl) rfl hf
-- GlassHillModel.isEating
def il241 : List (Nat × Instr × Nat) := [(0, .aload_n 0, 1), (1, .iload_n 1, 1), (2, .iconst 3, 1), (3, .invokevirtual 72, 3), (6, .ifCond .lt 29, 3), (9, .iload_n 2, 1), (10, .bipush 24, 2), (12, .irem, 1), (13, .aload_n 0, 1), (14, .iload_n 1, 1), (15, .iconst 3, 1), (16, .invokevirtual 72, 3), (19, .aload_n 0, 1), (20, .iload_n 1, 1), (21, .iconst 4, 1), (22, .invokevirtual 72, 3), (25, .invokestatic 80, 3), (28, .ifCond .eq 7, 3), (31, .iconst 1, 1), (32, .goto 4, 3), (35, .iconst 0, 1), (36, .ireturn, 1)]
theorem dc241 : dcs (mC 241) il241 := dc_of (by decide +kernel)
def mo_isEating (v1 : Int) (v2 : Int) (M : MM) : OR :=
  (bI (mo_of v1 3 M) fun z_3 M_2 => (bif cmpB .lt z_3 0 then some (rI 0, M_2) else (bI (mo_of v1 3 M_2) fun z_6 M_5 => (bI (mo_of v1 4 M_5) fun z_9 M_8 => (bI (mo_in ((w32 v2).tmod (w32 24)) z_6 z_9 M_8) fun z_12 M_11 => (bif cmpB .eq z_12 0 then some (rI 0, M_11) else some (rI 1, M_11)))))))
set_option maxRecDepth 4000 in
theorem mo_isEating_ok {Z : Nat × (Nat → Int)} {d : Nat} (hd : 1 ≤ d) {M : MM}  {v1 v2 : Int} {res : AR × MM} (hf : mo_isEating v1 v2 M = some res) : EX Z d 241 0 (ent 241 [vR 165, vI v1, vI v2]) [] M res := by
  obtain ⟨e9, rfl⟩ : ∃ e9, d = e9 + 1 := ⟨d - 1, by omega⟩
  unfold mo_isEating at hf
  show EX Z _ 241 0 [vR 165, vI v1, vI v2] [] M res
  refine ex_pu (ls' := [vR 165, vI v1, vI v2]) (st' := [vR 165]) (dg dc241 0 rfl) rfl rfl ?_
  refine ex_pu (ls' := [vR 165, vI v1, vI v2]) (st' := [vI v1, vR 165]) (dg dc241 1 rfl) rfl rfl ?_
  refine ex_pu (ls' := [vR 165, vI v1, vI v2]) (st' := [vI 3, vI v1, vR 165]) (dg dc241 2 rfl) rfl rfl ?_
  refine ex_cI (vs := [vR 165, vI v1, vI 3]) (st' := []) (F := (mo_of v1 3 M)) (Or.inr (Or.inl ⟨rfl, (dg dc241 3 rfl)⟩)) rfl rfl (rk1 (LOC.st (Nat.le_of_ble_eq_true rfl) rfl) rfl) rfl (fun _ r9 => mo_of_ok (Z := Z) (d := e9) (by omega)  r9) hf (fun z_3 M_2 he_1 hf => ?_)
  refine ex_if (t := 35) (dg dc241 4 rfl) rfl hf (fun _ hf => ?_) (fun _ hf => ?_)
  · refine ex_pu (ls' := [vR 165, vI v1, vI v2]) (st' := [vI 0]) (dg dc241 20 rfl) rfl rfl ?_
    exact ex_ire (dg dc241 21 rfl) rfl hf
  · refine ex_pu (ls' := [vR 165, vI v1, vI v2]) (st' := [vI v2]) (dg dc241 5 rfl) rfl rfl ?_
    refine ex_pu (ls' := [vR 165, vI v1, vI v2]) (st' := [vI 24, vI v2]) (dg dc241 6 rfl) rfl rfl ?_
    refine ex_irem (dg dc241 7 rfl) (by decide +kernel) ?_
    refine ex_pu (ls' := [vR 165, vI v1, vI v2]) (st' := [vR 165, vI ((w32 v2).tmod (w32 24))]) (dg dc241 8 rfl) rfl rfl ?_
    refine ex_pu (ls' := [vR 165, vI v1, vI v2]) (st' := [vI v1, vR 165, vI ((w32 v2).tmod (w32 24))]) (dg dc241 9 rfl) rfl rfl ?_
    refine ex_pu (ls' := [vR 165, vI v1, vI v2]) (st' := [vI 3, vI v1, vR 165, vI ((w32 v2).tmod (w32 24))]) (dg dc241 10 rfl) rfl rfl ?_
    refine ex_cI (vs := [vR 165, vI v1, vI 3]) (st' := [vI ((w32 v2).tmod (w32 24))]) (F := (mo_of v1 3 M_2)) (Or.inr (Or.inl ⟨rfl, (dg dc241 11 rfl)⟩)) rfl rfl (rk1 (LOC.st (Nat.le_of_ble_eq_true rfl) rfl) rfl) rfl (fun _ r9 => mo_of_ok (Z := Z) (d := e9) (by omega)  r9) hf (fun z_6 M_5 he_4 hf => ?_)
    refine ex_pu (ls' := [vR 165, vI v1, vI v2]) (st' := [vR 165, vI z_6, vI ((w32 v2).tmod (w32 24))]) (dg dc241 12 rfl) rfl rfl ?_
    refine ex_pu (ls' := [vR 165, vI v1, vI v2]) (st' := [vI v1, vR 165, vI z_6, vI ((w32 v2).tmod (w32 24))]) (dg dc241 13 rfl) rfl rfl ?_
    refine ex_pu (ls' := [vR 165, vI v1, vI v2]) (st' := [vI 4, vI v1, vR 165, vI z_6, vI ((w32 v2).tmod (w32 24))]) (dg dc241 14 rfl) rfl rfl ?_
    refine ex_cI (vs := [vR 165, vI v1, vI 4]) (st' := [vI z_6, vI ((w32 v2).tmod (w32 24))]) (F := (mo_of v1 4 M_5)) (Or.inr (Or.inl ⟨rfl, (dg dc241 15 rfl)⟩)) rfl rfl (rk1 (LOC.st (Nat.le_of_ble_eq_true rfl) rfl) rfl) rfl (fun _ r9 => mo_of_ok (Z := Z) (d := e9) (by omega)  r9) hf (fun z_9 M_8 he_7 hf => ?_)
    refine ex_cI (vs := [vI ((w32 v2).tmod (w32 24)), vI z_6, vI z_9]) (st' := []) (F := (mo_in ((w32 v2).tmod (w32 24)) z_6 z_9 M_8)) (Or.inl ⟨rfl, (dg dc241 16 rfl)⟩) rfl rfl (Or.inl rfl) rfl (fun _ r9 => mo_in_ok (Z := Z) (d := e9) (by omega)  r9) hf (fun z_12 M_11 he_10 hf => ?_)
    refine ex_if (t := 35) (dg dc241 17 rfl) rfl hf (fun _ hf => ?_) (fun _ hf => ?_)
    · refine ex_pu (ls' := [vR 165, vI v1, vI v2]) (st' := [vI 0]) (dg dc241 20 rfl) rfl rfl ?_
      exact ex_ire (dg dc241 21 rfl) rfl hf
    · refine ex_pu (ls' := [vR 165, vI v1, vI v2]) (st' := [vI 1]) (dg dc241 18 rfl) rfl rfl ?_
      refine ex_goto (t := 36) (dg dc241 19 rfl) rfl rfl ?_
      exact ex_ire (dg dc241 21 rfl) rfl hf
-- GlassHillModel.waits
def il244 : List (Nat × Instr × Nat) := [(0, .aload_n 0, 1), (1, .getfield 13, 3), (4, .bipush 6, 2), (6, .iaload, 1), (7, .lload_n 1, 1), (8, .invokestatic 303, 3), (11, .iadd, 1), (12, .iconst 1, 1), (13, .iadd, 1), (14, .istore_n 3, 1), (15, .aload_n 0, 1), (16, .lload_n 1, 1), (17, .invokestatic 307, 3), (20, .iload_n 3, 1), (21, .invokevirtual 380, 3), (24, .ifCond .eq 9, 3), (27, .ldc2_w 281, 3), (30, .goto 6, 3), (33, .lload_n 1, 1), (34, .lconst 1, 1), (35, .ladd, 1), (36, .lreturn, 1)]
theorem dc244 : dcs (mC 244) il244 := dc_of (by decide +kernel)
def mo_waits (v1 : Int) (M : MM) : OR :=
  (bif inB 6 1964 then (bI (mo_hoursOf v1 M) fun z_3 M_2 => (bI (mo_placeOf v1 M_2) fun z_6 M_5 => (bI (mo_isEating z_6 (((M 166 6) + z_3) + 1) M_5) fun z_9 M_8 => (bif cmpB .eq z_9 0 then some (rJ (v1 + 1), M_8) else some (rJ (-1), M_8))))) else none)
set_option maxRecDepth 4000 in
theorem mo_waits_ok {Z : Nat × (Nat → Int)} {d : Nat} (hd : 2 ≤ d) {M : MM}  {v1 : Int} {res : AR × MM} (hf : mo_waits v1 M = some res) : EX Z d 244 0 (ent 244 [vR 165, vJ v1]) [] M res := by
  obtain ⟨e9, rfl⟩ : ∃ e9, d = e9 + 1 := ⟨d - 1, by omega⟩
  unfold mo_waits at hf
  show EX Z _ 244 0 [vR 165, vJ v1, vU, vU] [] M res
  refine ex_pu (ls' := [vR 165, vJ v1, vU, vU]) (st' := [vR 165]) (dg dc244 0 rfl) rfl rfl ?_
  refine ex_getO (dg dc244 1 rfl) rfl (LOC.st (Nat.le_of_ble_eq_true rfl) rfl) rfl ?_
  show EX Z _ 244 _ [vR 165, vJ v1, vU, vU] [vR 166] _ _
  refine ex_pu (ls' := [vR 165, vJ v1, vU, vU]) (st' := [vI 6, vR 166]) (dg dc244 2 rfl) rfl rfl ?_
  refine ex_iald (dg dc244 3 rfl) (LOC.st (Nat.le_of_ble_eq_true rfl) rfl) rfl hf (fun _ hf => ?_)
  refine ex_pu (ls' := [vR 165, vJ v1, vU, vU]) (st' := [vJ v1, vI (M 166 6)]) (dg dc244 4 rfl) rfl rfl ?_
  refine ex_cI (vs := [vJ v1]) (st' := [vI (M 166 6)]) (F := (mo_hoursOf v1 M)) (Or.inl ⟨rfl, (dg dc244 5 rfl)⟩) rfl rfl (Or.inl rfl) rfl (fun _ r9 => mo_hoursOf_ok (Z := Z) (d := e9) (by omega)  r9) hf (fun z_3 M_2 he_1 hf => ?_)
  refine ex_pu (ls' := [vR 165, vJ v1, vU, vU]) (st' := [vI ((M 166 6) + z_3)]) (dg dc244 6 rfl) rfl rfl ?_
  refine ex_pu (ls' := [vR 165, vJ v1, vU, vU]) (st' := [vI 1, vI ((M 166 6) + z_3)]) (dg dc244 7 rfl) rfl rfl ?_
  refine ex_pu (ls' := [vR 165, vJ v1, vU, vU]) (st' := [vI (((M 166 6) + z_3) + 1)]) (dg dc244 8 rfl) rfl rfl ?_
  refine ex_pu (ls' := [vR 165, vJ v1, vU, vI (((M 166 6) + z_3) + 1)]) (st' := []) (dg dc244 9 rfl) rfl rfl ?_
  refine ex_pu (ls' := [vR 165, vJ v1, vU, vI (((M 166 6) + z_3) + 1)]) (st' := [vR 165]) (dg dc244 10 rfl) rfl rfl ?_
  refine ex_pu (ls' := [vR 165, vJ v1, vU, vI (((M 166 6) + z_3) + 1)]) (st' := [vJ v1, vR 165]) (dg dc244 11 rfl) rfl rfl ?_
  refine ex_cI (vs := [vJ v1]) (st' := [vR 165]) (F := (mo_placeOf v1 M_2)) (Or.inl ⟨rfl, (dg dc244 12 rfl)⟩) rfl rfl (Or.inl rfl) rfl (fun _ r9 => mo_placeOf_ok (Z := Z) (d := e9) (by omega)  r9) hf (fun z_6 M_5 he_4 hf => ?_)
  refine ex_pu (ls' := [vR 165, vJ v1, vU, vI (((M 166 6) + z_3) + 1)]) (st' := [vI (((M 166 6) + z_3) + 1), vI z_6, vR 165]) (dg dc244 13 rfl) rfl rfl ?_
  refine ex_cI (vs := [vR 165, vI z_6, vI (((M 166 6) + z_3) + 1)]) (st' := []) (F := (mo_isEating z_6 (((M 166 6) + z_3) + 1) M_5)) (Or.inr (Or.inl ⟨rfl, (dg dc244 14 rfl)⟩)) rfl rfl (rk1 (LOC.st (Nat.le_of_ble_eq_true rfl) rfl) rfl) rfl (fun _ r9 => mo_isEating_ok (Z := Z) (d := e9) (by omega)  r9) hf (fun z_9 M_8 he_7 hf => ?_)
  refine ex_if (t := 33) (dg dc244 15 rfl) rfl hf (fun _ hf => ?_) (fun _ hf => ?_)
  · refine ex_pu (ls' := [vR 165, vJ v1, vU, vI (((M 166 6) + z_3) + 1)]) (st' := [vJ v1]) (dg dc244 18 rfl) rfl rfl ?_
    refine ex_pu (ls' := [vR 165, vJ v1, vU, vI (((M 166 6) + z_3) + 1)]) (st' := [vJ 1, vJ v1]) (dg dc244 19 rfl) rfl rfl ?_
    refine ex_pu (ls' := [vR 165, vJ v1, vU, vI (((M 166 6) + z_3) + 1)]) (st' := [vJ (v1 + 1)]) (dg dc244 20 rfl) rfl rfl ?_
    exact ex_jre (dg dc244 21 rfl) rfl hf
  · refine ex_ldc2 (dg dc244 16 rfl) rfl ?_
    refine ex_goto (t := 36) (dg dc244 17 rfl) rfl rfl ?_
    exact ex_jre (dg dc244 21 rfl) rfl hf
-- GlassHillModel.frees
def il247 : List (Nat × Instr × Nat) := [(0, .iconst 0, 1), (1, .istore 4, 2), (3, .iconst 0, 1), (4, .istore 5, 2), (6, .iload 5, 2), (8, .aload_n 0, 1), (9, .invokevirtual 84, 3), (12, .if_icmp .ge 41, 3), (15, .iload 4, 2), (17, .ifCond .ne 23, 3), (20, .lload_n 1, 1), (21, .iload 5, 2), (23, .invokestatic 313, 3), (26, .iconst 2, 1), (27, .if_icmp .ne 17, 3), (30, .aload_n 0, 1), (31, .iload 5, 2), (33, .iload_n 3, 1), (34, .invokevirtual 390, 3), (37, .ifCond .eq 7, 3), (40, .iconst 1, 1), (41, .goto 4, 3), (44, .iconst 0, 1), (45, .istore 4, 2), (47, .iinc 5 1, 3), (50, .goto (-44), 3), (53, .iload 4, 2), (55, .ifCond .eq 40, 3), (58, .aload_n 0, 1), (59, .iload_n 3, 1), (60, .iconst 0, 1), (61, .invokevirtual 287, 3), (64, .lload_n 1, 1), (65, .invokestatic 307, 3), (68, .if_icmp .ne 27, 3), (71, .lload_n 1, 1), (72, .invokestatic 320, 3), (75, .iload_n 3, 1), (76, .invokestatic 323, 3), (79, .ifCond .ne 16, 3), (82, .lload_n 1, 1), (83, .bipush 44, 2), (85, .iload_n 3, 1), (86, .iadd, 1), (87, .iconst 1, 1), (88, .iconst 1, 1), (89, .invokestatic 283, 3), (92, .goto 6, 3), (95, .ldc2_w 281, 3), (98, .lreturn, 1)]
theorem dc247 : dcs (mC 247) il247 := dc_of (by decide +kernel)
def mo_frees_L6  (v1 v3 : Int) (K1 : Int → MM → OR) : Nat → Int → Int → MM → OR
  | 0, _, _, _ => none
  | n + 1, v4, v5, M => (bI (mo_things  M) fun z_3 M_2 => (bif cmpB .ge v5 z_3 then (K1 v4 M_2) else (bif cmpB .ne v4 0 then (mo_frees_L6 v1 v3 K1 n 1 (v5 + 1) M_2) else (bI (mo_stateOf v1 v5 M_2) fun z_6 M_5 => (bif cmpB .ne z_6 2 then (mo_frees_L6 v1 v3 K1 n 0 (v5 + 1) M_5) else (bI (mo_fitsBrother v5 v3 M_5) fun z_9 M_8 => (bif cmpB .eq z_9 0 then (mo_frees_L6 v1 v3 K1 n 0 (v5 + 1) M_8) else (mo_frees_L6 v1 v3 K1 n 1 (v5 + 1) M_8))))))))
set_option maxRecDepth 4000 in
theorem mo_frees_L6_ok {Z : Nat × (Nat → Int)} {d : Nat} (hd : 2 ≤ d)  {v1 v3 : Int} {K1 : Int → MM → OR} {res : AR × MM} (k1 : ∀ (x4 : Int) (M : MM) (j5 : AV), K1 x4 M = some res → EX Z d 247 53 [vR 165, vJ v1, vU, vI v3, vI x4, j5] [] M res) : ∀ (n : Nat) (v4 v5 : Int) (M : MM), mo_frees_L6 v1 v3 K1 n v4 v5 M = some res → EX Z d 247 6 [vR 165, vJ v1, vU, vI v3, vI v4, vI v5] [] M res := by
  obtain ⟨e9, rfl⟩ : ∃ e9, d = e9 + 1 := ⟨d - 1, by omega⟩
  intro n
  induction n with
  | zero =>
    intro v4 v5 M hf
    unfold mo_frees_L6 at hf
    cases hf
  | succ n ih =>
    intro v4 v5 M hf
    unfold mo_frees_L6 at hf
    refine ex_pu (ls' := [vR 165, vJ v1, vU, vI v3, vI v4, vI v5]) (st' := [vI v5]) (dg dc247 4 rfl) rfl rfl ?_
    refine ex_pu (ls' := [vR 165, vJ v1, vU, vI v3, vI v4, vI v5]) (st' := [vR 165, vI v5]) (dg dc247 5 rfl) rfl rfl ?_
    refine ex_cI (vs := [vR 165]) (st' := [vI v5]) (F := (mo_things  M)) (Or.inr (Or.inl ⟨rfl, (dg dc247 6 rfl)⟩)) rfl rfl (rk1 (LOC.st (Nat.le_of_ble_eq_true rfl) rfl) rfl) rfl (fun _ r9 => mo_things_ok (Z := Z) (d := e9) (by omega)  r9) hf (fun z_3 M_2 he_1 hf => ?_)
    refine ex_icmp (t := 53) (dg dc247 7 rfl) rfl hf (fun _ hf => ?_) (fun _ hf => ?_)
    · exact k1 v4 M_2 _ hf
    · refine ex_pu (ls' := [vR 165, vJ v1, vU, vI v3, vI v4, vI v5]) (st' := [vI v4]) (dg dc247 8 rfl) rfl rfl ?_
      refine ex_if (t := 40) (dg dc247 9 rfl) rfl hf (fun _ hf => ?_) (fun _ hf => ?_)
      · refine ex_pu (ls' := [vR 165, vJ v1, vU, vI v3, vI v4, vI v5]) (st' := [vI 1]) (dg dc247 20 rfl) rfl rfl ?_
        refine ex_goto (t := 45) (dg dc247 21 rfl) rfl rfl ?_
        refine ex_pu (ls' := [vR 165, vJ v1, vU, vI v3, vI 1, vI v5]) (st' := []) (dg dc247 23 rfl) rfl rfl ?_
        refine ex_pu (ls' := [vR 165, vJ v1, vU, vI v3, vI 1, vI (v5 + 1)]) (st' := []) (dg dc247 24 rfl) rfl rfl ?_
        refine ex_goto (t := 6) (dg dc247 25 rfl) rfl rfl ?_
        exact ih 1 (v5 + 1) M_2 hf
      · refine ex_pu (ls' := [vR 165, vJ v1, vU, vI v3, vI v4, vI v5]) (st' := [vJ v1]) (dg dc247 10 rfl) rfl rfl ?_
        refine ex_pu (ls' := [vR 165, vJ v1, vU, vI v3, vI v4, vI v5]) (st' := [vI v5, vJ v1]) (dg dc247 11 rfl) rfl rfl ?_
        refine ex_cI (vs := [vJ v1, vI v5]) (st' := []) (F := (mo_stateOf v1 v5 M_2)) (Or.inl ⟨rfl, (dg dc247 12 rfl)⟩) rfl rfl (Or.inl rfl) rfl (fun _ r9 => mo_stateOf_ok (Z := Z) (d := e9) (by omega)  r9) hf (fun z_6 M_5 he_4 hf => ?_)
        refine ex_pu (ls' := [vR 165, vJ v1, vU, vI v3, vI v4, vI v5]) (st' := [vI 2, vI z_6]) (dg dc247 13 rfl) rfl rfl ?_
        refine ex_icmp (t := 44) (dg dc247 14 rfl) rfl hf (fun _ hf => ?_) (fun _ hf => ?_)
        · refine ex_pu (ls' := [vR 165, vJ v1, vU, vI v3, vI v4, vI v5]) (st' := [vI 0]) (dg dc247 22 rfl) rfl rfl ?_
          refine ex_pu (ls' := [vR 165, vJ v1, vU, vI v3, vI 0, vI v5]) (st' := []) (dg dc247 23 rfl) rfl rfl ?_
          refine ex_pu (ls' := [vR 165, vJ v1, vU, vI v3, vI 0, vI (v5 + 1)]) (st' := []) (dg dc247 24 rfl) rfl rfl ?_
          refine ex_goto (t := 6) (dg dc247 25 rfl) rfl rfl ?_
          exact ih 0 (v5 + 1) M_5 hf
        · refine ex_pu (ls' := [vR 165, vJ v1, vU, vI v3, vI v4, vI v5]) (st' := [vR 165]) (dg dc247 15 rfl) rfl rfl ?_
          refine ex_pu (ls' := [vR 165, vJ v1, vU, vI v3, vI v4, vI v5]) (st' := [vI v5, vR 165]) (dg dc247 16 rfl) rfl rfl ?_
          refine ex_pu (ls' := [vR 165, vJ v1, vU, vI v3, vI v4, vI v5]) (st' := [vI v3, vI v5, vR 165]) (dg dc247 17 rfl) rfl rfl ?_
          refine ex_cI (vs := [vR 165, vI v5, vI v3]) (st' := []) (F := (mo_fitsBrother v5 v3 M_5)) (Or.inr (Or.inl ⟨rfl, (dg dc247 18 rfl)⟩)) rfl rfl (rk1 (LOC.st (Nat.le_of_ble_eq_true rfl) rfl) rfl) rfl (fun _ r9 => mo_fitsBrother_ok (Z := Z) (d := e9) (by omega)  r9) hf (fun z_9 M_8 he_7 hf => ?_)
          refine ex_if (t := 44) (dg dc247 19 rfl) rfl hf (fun _ hf => ?_) (fun _ hf => ?_)
          · refine ex_pu (ls' := [vR 165, vJ v1, vU, vI v3, vI v4, vI v5]) (st' := [vI 0]) (dg dc247 22 rfl) rfl rfl ?_
            refine ex_pu (ls' := [vR 165, vJ v1, vU, vI v3, vI 0, vI v5]) (st' := []) (dg dc247 23 rfl) rfl rfl ?_
            refine ex_pu (ls' := [vR 165, vJ v1, vU, vI v3, vI 0, vI (v5 + 1)]) (st' := []) (dg dc247 24 rfl) rfl rfl ?_
            refine ex_goto (t := 6) (dg dc247 25 rfl) rfl rfl ?_
            exact ih 0 (v5 + 1) M_8 hf
          · refine ex_pu (ls' := [vR 165, vJ v1, vU, vI v3, vI v4, vI v5]) (st' := [vI 1]) (dg dc247 20 rfl) rfl rfl ?_
            refine ex_goto (t := 45) (dg dc247 21 rfl) rfl rfl ?_
            refine ex_pu (ls' := [vR 165, vJ v1, vU, vI v3, vI 1, vI v5]) (st' := []) (dg dc247 23 rfl) rfl rfl ?_
            refine ex_pu (ls' := [vR 165, vJ v1, vU, vI v3, vI 1, vI (v5 + 1)]) (st' := []) (dg dc247 24 rfl) rfl rfl ?_
            refine ex_goto (t := 6) (dg dc247 25 rfl) rfl rfl ?_
            exact ih 1 (v5 + 1) M_8 hf
def mo_frees (v1 : Int) (v3 : Int) (M : MM) : OR :=
  (mo_frees_L6 v1 v3 (fun v4_10 M_11 => (bif cmpB .eq v4_10 0 then some (rJ (-1), M_11) else (bI (mo_ofBrother v3 0 M_11) fun z_15 M_14 => (bI (mo_placeOf v1 M_14) fun z_18 M_17 => (bif cmpB .ne z_15 z_18 then some (rJ (-1), M_17) else (bI (mo_freedIn v1 M_17) fun z_21 M_20 => (bI (mo_has z_21 v3 M_20) fun z_24 M_23 => (bif cmpB .ne z_24 0 then some (rJ (-1), M_23) else (bJ (mo_with v1 (44 + v3) 1 1 M_23) fun z_27 M_26 => some (rJ z_27, M_26)))))))))) FU 0 0 M)
set_option maxRecDepth 4000 in
theorem mo_frees_ok {Z : Nat × (Nat → Int)} {d : Nat} (hd : 2 ≤ d) {M : MM}  {v1 v3 : Int} {res : AR × MM} (hf : mo_frees v1 v3 M = some res) : EX Z d 247 0 (ent 247 [vR 165, vJ v1, vI v3]) [] M res := by
  obtain ⟨e9, rfl⟩ : ∃ e9, d = e9 + 1 := ⟨d - 1, by omega⟩
  unfold mo_frees at hf
  show EX Z _ 247 0 [vR 165, vJ v1, vU, vI v3, vU, vU] [] M res
  refine ex_pu (ls' := [vR 165, vJ v1, vU, vI v3, vU, vU]) (st' := [vI 0]) (dg dc247 0 rfl) rfl rfl ?_
  refine ex_pu (ls' := [vR 165, vJ v1, vU, vI v3, vI 0, vU]) (st' := []) (dg dc247 1 rfl) rfl rfl ?_
  refine ex_pu (ls' := [vR 165, vJ v1, vU, vI v3, vI 0, vU]) (st' := [vI 0]) (dg dc247 2 rfl) rfl rfl ?_
  refine ex_pu (ls' := [vR 165, vJ v1, vU, vI v3, vI 0, vI 0]) (st' := []) (dg dc247 3 rfl) rfl rfl ?_
  refine mo_frees_L6_ok hd  ?_ FU 0 0 M hf
  · intro v4_10 M_11 j5_12 hf
    refine ex_pu (ls' := [vR 165, vJ v1, vU, vI v3, vI v4_10, j5_12]) (st' := [vI v4_10]) (dg dc247 26 rfl) rfl rfl ?_
    refine ex_if (t := 95) (dg dc247 27 rfl) rfl hf (fun _ hf => ?_) (fun _ hf => ?_)
    · refine ex_ldc2 (dg dc247 48 rfl) rfl ?_
      exact ex_jre (dg dc247 49 rfl) rfl hf
    · refine ex_pu (ls' := [vR 165, vJ v1, vU, vI v3, vI v4_10, j5_12]) (st' := [vR 165]) (dg dc247 28 rfl) rfl rfl ?_
      refine ex_pu (ls' := [vR 165, vJ v1, vU, vI v3, vI v4_10, j5_12]) (st' := [vI v3, vR 165]) (dg dc247 29 rfl) rfl rfl ?_
      refine ex_pu (ls' := [vR 165, vJ v1, vU, vI v3, vI v4_10, j5_12]) (st' := [vI 0, vI v3, vR 165]) (dg dc247 30 rfl) rfl rfl ?_
      refine ex_cI (vs := [vR 165, vI v3, vI 0]) (st' := []) (F := (mo_ofBrother v3 0 M_11)) (Or.inr (Or.inl ⟨rfl, (dg dc247 31 rfl)⟩)) rfl rfl (rk1 (LOC.st (Nat.le_of_ble_eq_true rfl) rfl) rfl) rfl (fun _ r9 => mo_ofBrother_ok (Z := Z) (d := e9) (by omega)  r9) hf (fun z_15 M_14 he_13 hf => ?_)
      refine ex_pu (ls' := [vR 165, vJ v1, vU, vI v3, vI v4_10, j5_12]) (st' := [vJ v1, vI z_15]) (dg dc247 32 rfl) rfl rfl ?_
      refine ex_cI (vs := [vJ v1]) (st' := [vI z_15]) (F := (mo_placeOf v1 M_14)) (Or.inl ⟨rfl, (dg dc247 33 rfl)⟩) rfl rfl (Or.inl rfl) rfl (fun _ r9 => mo_placeOf_ok (Z := Z) (d := e9) (by omega)  r9) hf (fun z_18 M_17 he_16 hf => ?_)
      refine ex_icmp (t := 95) (dg dc247 34 rfl) rfl hf (fun _ hf => ?_) (fun _ hf => ?_)
      · refine ex_ldc2 (dg dc247 48 rfl) rfl ?_
        exact ex_jre (dg dc247 49 rfl) rfl hf
      · refine ex_pu (ls' := [vR 165, vJ v1, vU, vI v3, vI v4_10, j5_12]) (st' := [vJ v1]) (dg dc247 35 rfl) rfl rfl ?_
        refine ex_cI (vs := [vJ v1]) (st' := []) (F := (mo_freedIn v1 M_17)) (Or.inl ⟨rfl, (dg dc247 36 rfl)⟩) rfl rfl (Or.inl rfl) rfl (fun _ r9 => mo_freedIn_ok (Z := Z) (d := e9) (by omega)  r9) hf (fun z_21 M_20 he_19 hf => ?_)
        refine ex_pu (ls' := [vR 165, vJ v1, vU, vI v3, vI v4_10, j5_12]) (st' := [vI v3, vI z_21]) (dg dc247 37 rfl) rfl rfl ?_
        refine ex_cI (vs := [vI z_21, vI v3]) (st' := []) (F := (mo_has z_21 v3 M_20)) (Or.inl ⟨rfl, (dg dc247 38 rfl)⟩) rfl rfl (Or.inl rfl) rfl (fun _ r9 => mo_has_ok (Z := Z) (d := e9) (by omega)  r9) hf (fun z_24 M_23 he_22 hf => ?_)
        refine ex_if (t := 95) (dg dc247 39 rfl) rfl hf (fun _ hf => ?_) (fun _ hf => ?_)
        · refine ex_ldc2 (dg dc247 48 rfl) rfl ?_
          exact ex_jre (dg dc247 49 rfl) rfl hf
        · refine ex_pu (ls' := [vR 165, vJ v1, vU, vI v3, vI v4_10, j5_12]) (st' := [vJ v1]) (dg dc247 40 rfl) rfl rfl ?_
          refine ex_pu (ls' := [vR 165, vJ v1, vU, vI v3, vI v4_10, j5_12]) (st' := [vI 44, vJ v1]) (dg dc247 41 rfl) rfl rfl ?_
          refine ex_pu (ls' := [vR 165, vJ v1, vU, vI v3, vI v4_10, j5_12]) (st' := [vI v3, vI 44, vJ v1]) (dg dc247 42 rfl) rfl rfl ?_
          refine ex_pu (ls' := [vR 165, vJ v1, vU, vI v3, vI v4_10, j5_12]) (st' := [vI (44 + v3), vJ v1]) (dg dc247 43 rfl) rfl rfl ?_
          refine ex_pu (ls' := [vR 165, vJ v1, vU, vI v3, vI v4_10, j5_12]) (st' := [vI 1, vI (44 + v3), vJ v1]) (dg dc247 44 rfl) rfl rfl ?_
          refine ex_pu (ls' := [vR 165, vJ v1, vU, vI v3, vI v4_10, j5_12]) (st' := [vI 1, vI 1, vI (44 + v3), vJ v1]) (dg dc247 45 rfl) rfl rfl ?_
          refine ex_cJ (vs := [vJ v1, vI (44 + v3), vI 1, vI 1]) (st' := []) (F := (mo_with v1 (44 + v3) 1 1 M_23)) (Or.inl ⟨rfl, (dg dc247 46 rfl)⟩) rfl rfl (Or.inl rfl) rfl (fun _ r9 => mo_with_ok (Z := Z) (d := e9) (by omega)  r9) hf (fun z_27 M_26 he_25 hf => ?_)
          refine ex_goto (t := 98) (dg dc247 47 rfl) rfl rfl ?_
          exact ex_jre (dg dc247 49 rfl) rfl hf
-- GlassHillModel.lyingAt
def il248 : List (Nat × Instr × Nat) := [(0, .iconst 0, 1), (1, .istore_n 2, 1), (2, .iconst 0, 1), (3, .istore_n 3, 1), (4, .iload_n 3, 1), (5, .aload_n 0, 1), (6, .invokevirtual 84, 3), (9, .if_icmp .ge 38, 3), (12, .iload_n 2, 1), (13, .aload_n 0, 1), (14, .iload_n 3, 1), (15, .iconst 2, 1), (16, .invokevirtual 290, 3), (19, .ifCond .ne 19, 3), (22, .aload_n 0, 1), (23, .iload_n 3, 1), (24, .iconst 3, 1), (25, .invokevirtual 290, 3), (28, .iload_n 1, 1), (29, .if_icmp .ne 9, 3), (32, .iconst 1, 1), (33, .iload_n 3, 1), (34, .ishl, 1), (35, .goto 4, 3), (38, .iconst 0, 1), (39, .ior, 1), (40, .istore_n 2, 1), (41, .iinc 3 1, 3), (44, .goto (-40), 3), (47, .iload_n 2, 1), (48, .ireturn, 1)]
theorem dc248 : dcs (mC 248) il248 := dc_of (by decide +kernel)
def mo_lyingAt_L4  (v1 : Int) (K1 : Int → MM → OR) : Nat → Int → Int → MM → OR
  | 0, _, _, _ => none
  | n + 1, v2, v3, M => (bI (mo_things  M) fun z_3 M_2 => (bif cmpB .ge v3 z_3 then (K1 v2 M_2) else (bI (mo_ofThing v3 2 M_2) fun z_6 M_5 => (bif cmpB .ne z_6 0 then (mo_lyingAt_L4 v1 K1 n (iOr v2 0) (v3 + 1) M_5) else (bI (mo_ofThing v3 3 M_5) fun z_9 M_8 => (bif cmpB .ne z_9 v1 then (mo_lyingAt_L4 v1 K1 n (iOr v2 0) (v3 + 1) M_8) else (mo_lyingAt_L4 v1 K1 n (iOr v2 (iShl 1 v3)) (v3 + 1) M_8)))))))
set_option maxRecDepth 4000 in
theorem mo_lyingAt_L4_ok {Z : Nat × (Nat → Int)} {d : Nat} (hd : 1 ≤ d)  {v1 : Int} {K1 : Int → MM → OR} {res : AR × MM} (k1 : ∀ (x2 : Int) (M : MM) (j0 j1 j3 : AV), K1 x2 M = some res → EX Z d 248 47 [j0, j1, vI x2, j3] [] M res) : ∀ (n : Nat) (v2 v3 : Int) (M : MM), mo_lyingAt_L4 v1 K1 n v2 v3 M = some res → EX Z d 248 4 [vR 165, vI v1, vI v2, vI v3] [] M res := by
  obtain ⟨e9, rfl⟩ : ∃ e9, d = e9 + 1 := ⟨d - 1, by omega⟩
  intro n
  induction n with
  | zero =>
    intro v2 v3 M hf
    unfold mo_lyingAt_L4 at hf
    cases hf
  | succ n ih =>
    intro v2 v3 M hf
    unfold mo_lyingAt_L4 at hf
    refine ex_pu (ls' := [vR 165, vI v1, vI v2, vI v3]) (st' := [vI v3]) (dg dc248 4 rfl) rfl rfl ?_
    refine ex_pu (ls' := [vR 165, vI v1, vI v2, vI v3]) (st' := [vR 165, vI v3]) (dg dc248 5 rfl) rfl rfl ?_
    refine ex_cI (vs := [vR 165]) (st' := [vI v3]) (F := (mo_things  M)) (Or.inr (Or.inl ⟨rfl, (dg dc248 6 rfl)⟩)) rfl rfl (rk1 (LOC.st (Nat.le_of_ble_eq_true rfl) rfl) rfl) rfl (fun _ r9 => mo_things_ok (Z := Z) (d := e9) (by omega)  r9) hf (fun z_3 M_2 he_1 hf => ?_)
    refine ex_icmp (t := 47) (dg dc248 7 rfl) rfl hf (fun _ hf => ?_) (fun _ hf => ?_)
    · exact k1 v2 M_2 _ _ _ hf
    · refine ex_pu (ls' := [vR 165, vI v1, vI v2, vI v3]) (st' := [vI v2]) (dg dc248 8 rfl) rfl rfl ?_
      refine ex_pu (ls' := [vR 165, vI v1, vI v2, vI v3]) (st' := [vR 165, vI v2]) (dg dc248 9 rfl) rfl rfl ?_
      refine ex_pu (ls' := [vR 165, vI v1, vI v2, vI v3]) (st' := [vI v3, vR 165, vI v2]) (dg dc248 10 rfl) rfl rfl ?_
      refine ex_pu (ls' := [vR 165, vI v1, vI v2, vI v3]) (st' := [vI 2, vI v3, vR 165, vI v2]) (dg dc248 11 rfl) rfl rfl ?_
      refine ex_cI (vs := [vR 165, vI v3, vI 2]) (st' := [vI v2]) (F := (mo_ofThing v3 2 M_2)) (Or.inr (Or.inl ⟨rfl, (dg dc248 12 rfl)⟩)) rfl rfl (rk1 (LOC.st (Nat.le_of_ble_eq_true rfl) rfl) rfl) rfl (fun _ r9 => mo_ofThing_ok (Z := Z) (d := e9) (by omega)  r9) hf (fun z_6 M_5 he_4 hf => ?_)
      refine ex_if (t := 38) (dg dc248 13 rfl) rfl hf (fun _ hf => ?_) (fun _ hf => ?_)
      · refine ex_pu (ls' := [vR 165, vI v1, vI v2, vI v3]) (st' := [vI 0, vI v2]) (dg dc248 24 rfl) rfl rfl ?_
        refine ex_pu (ls' := [vR 165, vI v1, vI v2, vI v3]) (st' := [vI (iOr v2 0)]) (dg dc248 25 rfl) rfl rfl ?_
        refine ex_pu (ls' := [vR 165, vI v1, vI (iOr v2 0), vI v3]) (st' := []) (dg dc248 26 rfl) rfl rfl ?_
        refine ex_pu (ls' := [vR 165, vI v1, vI (iOr v2 0), vI (v3 + 1)]) (st' := []) (dg dc248 27 rfl) rfl rfl ?_
        refine ex_goto (t := 4) (dg dc248 28 rfl) rfl rfl ?_
        exact ih (iOr v2 0) (v3 + 1) M_5 hf
      · refine ex_pu (ls' := [vR 165, vI v1, vI v2, vI v3]) (st' := [vR 165, vI v2]) (dg dc248 14 rfl) rfl rfl ?_
        refine ex_pu (ls' := [vR 165, vI v1, vI v2, vI v3]) (st' := [vI v3, vR 165, vI v2]) (dg dc248 15 rfl) rfl rfl ?_
        refine ex_pu (ls' := [vR 165, vI v1, vI v2, vI v3]) (st' := [vI 3, vI v3, vR 165, vI v2]) (dg dc248 16 rfl) rfl rfl ?_
        refine ex_cI (vs := [vR 165, vI v3, vI 3]) (st' := [vI v2]) (F := (mo_ofThing v3 3 M_5)) (Or.inr (Or.inl ⟨rfl, (dg dc248 17 rfl)⟩)) rfl rfl (rk1 (LOC.st (Nat.le_of_ble_eq_true rfl) rfl) rfl) rfl (fun _ r9 => mo_ofThing_ok (Z := Z) (d := e9) (by omega)  r9) hf (fun z_9 M_8 he_7 hf => ?_)
        refine ex_pu (ls' := [vR 165, vI v1, vI v2, vI v3]) (st' := [vI v1, vI z_9, vI v2]) (dg dc248 18 rfl) rfl rfl ?_
        refine ex_icmp (t := 38) (dg dc248 19 rfl) rfl hf (fun _ hf => ?_) (fun _ hf => ?_)
        · refine ex_pu (ls' := [vR 165, vI v1, vI v2, vI v3]) (st' := [vI 0, vI v2]) (dg dc248 24 rfl) rfl rfl ?_
          refine ex_pu (ls' := [vR 165, vI v1, vI v2, vI v3]) (st' := [vI (iOr v2 0)]) (dg dc248 25 rfl) rfl rfl ?_
          refine ex_pu (ls' := [vR 165, vI v1, vI (iOr v2 0), vI v3]) (st' := []) (dg dc248 26 rfl) rfl rfl ?_
          refine ex_pu (ls' := [vR 165, vI v1, vI (iOr v2 0), vI (v3 + 1)]) (st' := []) (dg dc248 27 rfl) rfl rfl ?_
          refine ex_goto (t := 4) (dg dc248 28 rfl) rfl rfl ?_
          exact ih (iOr v2 0) (v3 + 1) M_8 hf
        · refine ex_pu (ls' := [vR 165, vI v1, vI v2, vI v3]) (st' := [vI 1, vI v2]) (dg dc248 20 rfl) rfl rfl ?_
          refine ex_pu (ls' := [vR 165, vI v1, vI v2, vI v3]) (st' := [vI v3, vI 1, vI v2]) (dg dc248 21 rfl) rfl rfl ?_
          refine ex_pu (ls' := [vR 165, vI v1, vI v2, vI v3]) (st' := [vI (iShl 1 v3), vI v2]) (dg dc248 22 rfl) rfl rfl ?_
          refine ex_goto (t := 39) (dg dc248 23 rfl) rfl rfl ?_
          refine ex_pu (ls' := [vR 165, vI v1, vI v2, vI v3]) (st' := [vI (iOr v2 (iShl 1 v3))]) (dg dc248 25 rfl) rfl rfl ?_
          refine ex_pu (ls' := [vR 165, vI v1, vI (iOr v2 (iShl 1 v3)), vI v3]) (st' := []) (dg dc248 26 rfl) rfl rfl ?_
          refine ex_pu (ls' := [vR 165, vI v1, vI (iOr v2 (iShl 1 v3)), vI (v3 + 1)]) (st' := []) (dg dc248 27 rfl) rfl rfl ?_
          refine ex_goto (t := 4) (dg dc248 28 rfl) rfl rfl ?_
          exact ih (iOr v2 (iShl 1 v3)) (v3 + 1) M_8 hf
def mo_lyingAt (v1 : Int) (M : MM) : OR :=
  (mo_lyingAt_L4 v1 (fun v2_10 M_11 => some (rI v2_10, M_11)) FU 0 0 M)
set_option maxRecDepth 4000 in
theorem mo_lyingAt_ok {Z : Nat × (Nat → Int)} {d : Nat} (hd : 1 ≤ d) {M : MM}  {v1 : Int} {res : AR × MM} (hf : mo_lyingAt v1 M = some res) : EX Z d 248 0 (ent 248 [vR 165, vI v1]) [] M res := by
  obtain ⟨e9, rfl⟩ : ∃ e9, d = e9 + 1 := ⟨d - 1, by omega⟩
  unfold mo_lyingAt at hf
  show EX Z _ 248 0 [vR 165, vI v1, vU, vU] [] M res
  refine ex_pu (ls' := [vR 165, vI v1, vU, vU]) (st' := [vI 0]) (dg dc248 0 rfl) rfl rfl ?_
  refine ex_pu (ls' := [vR 165, vI v1, vI 0, vU]) (st' := []) (dg dc248 1 rfl) rfl rfl ?_
  refine ex_pu (ls' := [vR 165, vI v1, vI 0, vU]) (st' := [vI 0]) (dg dc248 2 rfl) rfl rfl ?_
  refine ex_pu (ls' := [vR 165, vI v1, vI 0, vI 0]) (st' := []) (dg dc248 3 rfl) rfl rfl ?_
  refine mo_lyingAt_L4_ok hd  ?_ FU 0 0 M hf
  · intro v2_10 M_11 j0_12 j1_13 j3_14 hf
    refine ex_pu (ls' := [j0_12, j1_13, vI v2_10, j3_14]) (st' := [vI v2_10]) (dg dc248 29 rfl) rfl rfl ?_
    exact ex_ire (dg dc248 30 rfl) rfl hf
-- GlassHillModel.place
def il249 : List (Nat × Instr × Nat) := [(0, .aload_n 0, 1), (1, .iconst 0, 1), (2, .putfield 3, 3), (5, .aload_n 0, 1), (6, .aload_n 0, 1), (7, .iload_n 1, 1), (8, .invokevirtual 393, 3), (11, .iconst 1, 1), (12, .invokevirtual 274, 3), (15, .ifCond .ne 26, 3), (18, .aload_n 0, 1), (19, .iload_n 2, 1), (20, .iconst 0, 1), (21, .bipush 8, 2), (23, .invokestatic 80, 3), (26, .ifCond .ne 7, 3), (29, .iconst 1, 1), (30, .goto 4, 3), (33, .iconst 0, 1), (34, .iconst 2, 1), (35, .invokevirtual 274, 3), (38, .ifCond .eq 5, 3), (41, .iconst 0, 1), (42, .ireturn, 1), (43, .iload_n 2, 1), (44, .bipush 8, 2), (46, .if_icmp .ne 9, 3), (49, .aload_n 0, 1), (50, .iload_n 1, 1), (51, .invokevirtual 396, 3), (54, .ireturn, 1), (55, .iload_n 2, 1), (56, .bipush 6, 2), (58, .if_icmp .ne 18, 3), (61, .aload_n 0, 1), (62, .iload_n 1, 1), (63, .bipush 7, 2), (65, .invokevirtual 72, 3), (68, .iconst 1, 1), (69, .if_icmp .ne 7, 3), (72, .iconst (-1), 1), (73, .goto 9, 3), (76, .aload_n 0, 1), (77, .iload_n 1, 1), (78, .iload_n 2, 1), (79, .invokevirtual 72, 3), (82, .ireturn, 1)]
theorem dc249 : dcs (mC 249) il249 := dc_of (by decide +kernel)
def mo_place_J34   (v1 v2 s0 : Int) (M : MM) : OR :=
  (bI (mo_throwsIf s0 2 M) fun z_14 M_13 => (bif cmpB .eq z_14 0 then (bif cmpB .ne v2 8 then (bif cmpB .ne v2 6 then (bI (mo_of v1 v2 M_13) fun z_17 M_16 => some (rI z_17, M_16)) else (bI (mo_of v1 7 M_13) fun z_20 M_19 => (bif cmpB .ne z_20 1 then (bI (mo_of v1 v2 M_19) fun z_23 M_22 => some (rI z_23, M_22)) else some (rI (-1), M_19)))) else (bI (mo_lyingAt v1 M_13) fun z_26 M_25 => some (rI z_26, M_25))) else some (rI 0, M_13)))
set_option maxRecDepth 4000 in
theorem mo_place_J34_ok {Z : Nat × (Nat → Int)} {d : Nat} (hd : 2 ≤ d)   {res : AR × MM}  : ∀ (v1 v2 s0 : Int) (M : MM), mo_place_J34   v1 v2 s0 M = some res → EX Z d 249 34 [vR 165, vI v1, vI v2] [vI s0, vR 165] M res := by
  obtain ⟨e9, rfl⟩ : ∃ e9, d = e9 + 1 := ⟨d - 1, by omega⟩
  intro v1 v2 s0 M hf
  unfold mo_place_J34 at hf
  refine ex_pu (ls' := [vR 165, vI v1, vI v2]) (st' := [vI 2, vI s0, vR 165]) (dg dc249 19 rfl) rfl rfl ?_
  refine ex_cI (vs := [vR 165, vI s0, vI 2]) (st' := []) (F := (mo_throwsIf s0 2 M)) (Or.inr (Or.inl ⟨rfl, (dg dc249 20 rfl)⟩)) rfl rfl (rk1 (LOC.st (Nat.le_of_ble_eq_true rfl) rfl) rfl) rfl (fun _ r9 => mo_throwsIf_ok (Z := Z) (d := e9) (by omega)  r9) hf (fun z_14 M_13 he_12 hf => ?_)
  refine ex_if (t := 43) (dg dc249 21 rfl) rfl hf (fun _ hf => ?_) (fun _ hf => ?_)
  · refine ex_pu (ls' := [vR 165, vI v1, vI v2]) (st' := [vI v2]) (dg dc249 24 rfl) rfl rfl ?_
    refine ex_pu (ls' := [vR 165, vI v1, vI v2]) (st' := [vI 8, vI v2]) (dg dc249 25 rfl) rfl rfl ?_
    refine ex_icmp (t := 55) (dg dc249 26 rfl) rfl hf (fun _ hf => ?_) (fun _ hf => ?_)
    · refine ex_pu (ls' := [vR 165, vI v1, vI v2]) (st' := [vI v2]) (dg dc249 31 rfl) rfl rfl ?_
      refine ex_pu (ls' := [vR 165, vI v1, vI v2]) (st' := [vI 6, vI v2]) (dg dc249 32 rfl) rfl rfl ?_
      refine ex_icmp (t := 76) (dg dc249 33 rfl) rfl hf (fun _ hf => ?_) (fun _ hf => ?_)
      · refine ex_pu (ls' := [vR 165, vI v1, vI v2]) (st' := [vR 165]) (dg dc249 42 rfl) rfl rfl ?_
        refine ex_pu (ls' := [vR 165, vI v1, vI v2]) (st' := [vI v1, vR 165]) (dg dc249 43 rfl) rfl rfl ?_
        refine ex_pu (ls' := [vR 165, vI v1, vI v2]) (st' := [vI v2, vI v1, vR 165]) (dg dc249 44 rfl) rfl rfl ?_
        refine ex_cI (vs := [vR 165, vI v1, vI v2]) (st' := []) (F := (mo_of v1 v2 M_13)) (Or.inr (Or.inl ⟨rfl, (dg dc249 45 rfl)⟩)) rfl rfl (rk1 (LOC.st (Nat.le_of_ble_eq_true rfl) rfl) rfl) rfl (fun _ r9 => mo_of_ok (Z := Z) (d := e9) (by omega)  r9) hf (fun z_17 M_16 he_15 hf => ?_)
        exact ex_ire (dg dc249 46 rfl) rfl hf
      · refine ex_pu (ls' := [vR 165, vI v1, vI v2]) (st' := [vR 165]) (dg dc249 34 rfl) rfl rfl ?_
        refine ex_pu (ls' := [vR 165, vI v1, vI v2]) (st' := [vI v1, vR 165]) (dg dc249 35 rfl) rfl rfl ?_
        refine ex_pu (ls' := [vR 165, vI v1, vI v2]) (st' := [vI 7, vI v1, vR 165]) (dg dc249 36 rfl) rfl rfl ?_
        refine ex_cI (vs := [vR 165, vI v1, vI 7]) (st' := []) (F := (mo_of v1 7 M_13)) (Or.inr (Or.inl ⟨rfl, (dg dc249 37 rfl)⟩)) rfl rfl (rk1 (LOC.st (Nat.le_of_ble_eq_true rfl) rfl) rfl) rfl (fun _ r9 => mo_of_ok (Z := Z) (d := e9) (by omega)  r9) hf (fun z_20 M_19 he_18 hf => ?_)
        refine ex_pu (ls' := [vR 165, vI v1, vI v2]) (st' := [vI 1, vI z_20]) (dg dc249 38 rfl) rfl rfl ?_
        refine ex_icmp (t := 76) (dg dc249 39 rfl) rfl hf (fun _ hf => ?_) (fun _ hf => ?_)
        · refine ex_pu (ls' := [vR 165, vI v1, vI v2]) (st' := [vR 165]) (dg dc249 42 rfl) rfl rfl ?_
          refine ex_pu (ls' := [vR 165, vI v1, vI v2]) (st' := [vI v1, vR 165]) (dg dc249 43 rfl) rfl rfl ?_
          refine ex_pu (ls' := [vR 165, vI v1, vI v2]) (st' := [vI v2, vI v1, vR 165]) (dg dc249 44 rfl) rfl rfl ?_
          refine ex_cI (vs := [vR 165, vI v1, vI v2]) (st' := []) (F := (mo_of v1 v2 M_19)) (Or.inr (Or.inl ⟨rfl, (dg dc249 45 rfl)⟩)) rfl rfl (rk1 (LOC.st (Nat.le_of_ble_eq_true rfl) rfl) rfl) rfl (fun _ r9 => mo_of_ok (Z := Z) (d := e9) (by omega)  r9) hf (fun z_23 M_22 he_21 hf => ?_)
          exact ex_ire (dg dc249 46 rfl) rfl hf
        · refine ex_pu (ls' := [vR 165, vI v1, vI v2]) (st' := [vI (-1)]) (dg dc249 40 rfl) rfl rfl ?_
          refine ex_goto (t := 82) (dg dc249 41 rfl) rfl rfl ?_
          exact ex_ire (dg dc249 46 rfl) rfl hf
    · refine ex_pu (ls' := [vR 165, vI v1, vI v2]) (st' := [vR 165]) (dg dc249 27 rfl) rfl rfl ?_
      refine ex_pu (ls' := [vR 165, vI v1, vI v2]) (st' := [vI v1, vR 165]) (dg dc249 28 rfl) rfl rfl ?_
      refine ex_cI (vs := [vR 165, vI v1]) (st' := []) (F := (mo_lyingAt v1 M_13)) (Or.inr (Or.inl ⟨rfl, (dg dc249 29 rfl)⟩)) rfl rfl (rk1 (LOC.st (Nat.le_of_ble_eq_true rfl) rfl) rfl) rfl (fun _ r9 => mo_lyingAt_ok (Z := Z) (d := e9) (by omega)  r9) hf (fun z_26 M_25 he_24 hf => ?_)
      exact ex_ire (dg dc249 30 rfl) rfl hf
  · refine ex_pu (ls' := [vR 165, vI v1, vI v2]) (st' := [vI 0]) (dg dc249 22 rfl) rfl rfl ?_
    exact ex_ire (dg dc249 23 rfl) rfl hf
def mo_place (v1 : Int) (v2 : Int) (M : MM) : OR :=
  (sM (mU M 165 0 0) fun M_1 => (bI (mo_noPlace v1 M_1) fun z_5 M_4 => (bI (mo_throwsIf z_5 1 M_4) fun z_8 M_7 => (bif cmpB .ne z_8 0 then some (rI 0, M_7) else (bI (mo_in v2 0 8 M_7) fun z_11 M_10 => (bif cmpB .ne z_11 0 then (mo_place_J34   v1 v2 0 M_10) else (mo_place_J34   v1 v2 1 M_10)))))))
set_option maxRecDepth 4000 in
theorem mo_place_ok {Z : Nat × (Nat → Int)} {d : Nat} (hd : 2 ≤ d) {M : MM}  {v1 v2 : Int} {res : AR × MM} (hf : mo_place v1 v2 M = some res) : EX Z d 249 0 (ent 249 [vR 165, vI v1, vI v2]) [] M res := by
  obtain ⟨e9, rfl⟩ : ∃ e9, d = e9 + 1 := ⟨d - 1, by omega⟩
  unfold mo_place at hf
  show EX Z _ 249 0 [vR 165, vI v1, vI v2] [] M res
  refine ex_pu (ls' := [vR 165, vI v1, vI v2]) (st' := [vR 165]) (dg dc249 0 rfl) rfl rfl ?_
  refine ex_pu (ls' := [vR 165, vI v1, vI v2]) (st' := [vI 0, vR 165]) (dg dc249 1 rfl) rfl rfl ?_
  refine ex_putI (dg dc249 2 rfl) rfl (LOC.st (Nat.le_of_ble_eq_true rfl) rfl) rfl rfl rfl ?_
  refine ex_gen hf (fun M_1 hM_2 hf => ?_)
  refine ex_pu (ls' := [vR 165, vI v1, vI v2]) (st' := [vR 165]) (dg dc249 3 rfl) rfl rfl ?_
  refine ex_pu (ls' := [vR 165, vI v1, vI v2]) (st' := [vR 165, vR 165]) (dg dc249 4 rfl) rfl rfl ?_
  refine ex_pu (ls' := [vR 165, vI v1, vI v2]) (st' := [vI v1, vR 165, vR 165]) (dg dc249 5 rfl) rfl rfl ?_
  refine ex_cI (vs := [vR 165, vI v1]) (st' := [vR 165]) (F := (mo_noPlace v1 M_1)) (Or.inr (Or.inl ⟨rfl, (dg dc249 6 rfl)⟩)) rfl rfl (rk1 (LOC.st (Nat.le_of_ble_eq_true rfl) rfl) rfl) rfl (fun _ r9 => mo_noPlace_ok (Z := Z) (d := e9) (by omega)  r9) hf (fun z_5 M_4 he_3 hf => ?_)
  refine ex_pu (ls' := [vR 165, vI v1, vI v2]) (st' := [vI 1, vI z_5, vR 165]) (dg dc249 7 rfl) rfl rfl ?_
  refine ex_cI (vs := [vR 165, vI z_5, vI 1]) (st' := []) (F := (mo_throwsIf z_5 1 M_4)) (Or.inr (Or.inl ⟨rfl, (dg dc249 8 rfl)⟩)) rfl rfl (rk1 (LOC.st (Nat.le_of_ble_eq_true rfl) rfl) rfl) rfl (fun _ r9 => mo_throwsIf_ok (Z := Z) (d := e9) (by omega)  r9) hf (fun z_8 M_7 he_6 hf => ?_)
  refine ex_if (t := 41) (dg dc249 9 rfl) rfl hf (fun _ hf => ?_) (fun _ hf => ?_)
  · refine ex_pu (ls' := [vR 165, vI v1, vI v2]) (st' := [vI 0]) (dg dc249 22 rfl) rfl rfl ?_
    exact ex_ire (dg dc249 23 rfl) rfl hf
  · refine ex_pu (ls' := [vR 165, vI v1, vI v2]) (st' := [vR 165]) (dg dc249 10 rfl) rfl rfl ?_
    refine ex_pu (ls' := [vR 165, vI v1, vI v2]) (st' := [vI v2, vR 165]) (dg dc249 11 rfl) rfl rfl ?_
    refine ex_pu (ls' := [vR 165, vI v1, vI v2]) (st' := [vI 0, vI v2, vR 165]) (dg dc249 12 rfl) rfl rfl ?_
    refine ex_pu (ls' := [vR 165, vI v1, vI v2]) (st' := [vI 8, vI 0, vI v2, vR 165]) (dg dc249 13 rfl) rfl rfl ?_
    refine ex_cI (vs := [vI v2, vI 0, vI 8]) (st' := [vR 165]) (F := (mo_in v2 0 8 M_7)) (Or.inl ⟨rfl, (dg dc249 14 rfl)⟩) rfl rfl (Or.inl rfl) rfl (fun _ r9 => mo_in_ok (Z := Z) (d := e9) (by omega)  r9) hf (fun z_11 M_10 he_9 hf => ?_)
    refine ex_if (t := 33) (dg dc249 15 rfl) rfl hf (fun _ hf => ?_) (fun _ hf => ?_)
    · refine ex_pu (ls' := [vR 165, vI v1, vI v2]) (st' := [vI 0, vR 165]) (dg dc249 18 rfl) rfl rfl ?_
      exact mo_place_J34_ok hd   v1 v2 0 M_10 hf
    · refine ex_pu (ls' := [vR 165, vI v1, vI v2]) (st' := [vI 1, vR 165]) (dg dc249 16 rfl) rfl rfl ?_
      refine ex_goto (t := 34) (dg dc249 17 rfl) rfl rfl ?_
      exact mo_place_J34_ok hd   v1 v2 1 M_10 hf
-- GlassHillModel.thing
def il250 : List (Nat × Instr × Nat) := [(0, .aload_n 0, 1), (1, .iconst 0, 1), (2, .putfield 3, 3), (5, .aload_n 0, 1), (6, .aload_n 0, 1), (7, .iload_n 1, 1), (8, .invokevirtual 399, 3), (11, .iconst 1, 1), (12, .invokevirtual 274, 3), (15, .ifCond .ne 25, 3), (18, .aload_n 0, 1), (19, .iload_n 2, 1), (20, .iconst 0, 1), (21, .iconst 3, 1), (22, .invokestatic 80, 3), (25, .ifCond .ne 7, 3), (28, .iconst 1, 1), (29, .goto 4, 3), (32, .iconst 0, 1), (33, .iconst 2, 1), (34, .invokevirtual 274, 3), (37, .ifCond .eq 5, 3), (40, .iconst 0, 1), (41, .ireturn, 1), (42, .iload_n 2, 1), (43, .iconst 3, 1), (44, .if_icmp .ne 17, 3), (47, .aload_n 0, 1), (48, .iload_n 1, 1), (49, .iconst 2, 1), (50, .invokevirtual 290, 3), (53, .iconst 1, 1), (54, .if_icmp .le 7, 3), (57, .iconst (-1), 1), (58, .goto 9, 3), (61, .aload_n 0, 1), (62, .iload_n 1, 1), (63, .iload_n 2, 1), (64, .invokevirtual 290, 3), (67, .ireturn, 1)]
theorem dc250 : dcs (mC 250) il250 := dc_of (by decide +kernel)
def mo_thing_J33   (v1 v2 s0 : Int) (M : MM) : OR :=
  (bI (mo_throwsIf s0 2 M) fun z_14 M_13 => (bif cmpB .eq z_14 0 then (bif cmpB .ne v2 3 then (bI (mo_ofThing v1 v2 M_13) fun z_17 M_16 => some (rI z_17, M_16)) else (bI (mo_ofThing v1 2 M_13) fun z_20 M_19 => (bif cmpB .le z_20 1 then (bI (mo_ofThing v1 v2 M_19) fun z_23 M_22 => some (rI z_23, M_22)) else some (rI (-1), M_19)))) else some (rI 0, M_13)))
set_option maxRecDepth 4000 in
theorem mo_thing_J33_ok {Z : Nat × (Nat → Int)} {d : Nat} (hd : 2 ≤ d)   {res : AR × MM}  : ∀ (v1 v2 s0 : Int) (M : MM), mo_thing_J33   v1 v2 s0 M = some res → EX Z d 250 33 [vR 165, vI v1, vI v2] [vI s0, vR 165] M res := by
  obtain ⟨e9, rfl⟩ : ∃ e9, d = e9 + 1 := ⟨d - 1, by omega⟩
  intro v1 v2 s0 M hf
  unfold mo_thing_J33 at hf
  refine ex_pu (ls' := [vR 165, vI v1, vI v2]) (st' := [vI 2, vI s0, vR 165]) (dg dc250 19 rfl) rfl rfl ?_
  refine ex_cI (vs := [vR 165, vI s0, vI 2]) (st' := []) (F := (mo_throwsIf s0 2 M)) (Or.inr (Or.inl ⟨rfl, (dg dc250 20 rfl)⟩)) rfl rfl (rk1 (LOC.st (Nat.le_of_ble_eq_true rfl) rfl) rfl) rfl (fun _ r9 => mo_throwsIf_ok (Z := Z) (d := e9) (by omega)  r9) hf (fun z_14 M_13 he_12 hf => ?_)
  refine ex_if (t := 42) (dg dc250 21 rfl) rfl hf (fun _ hf => ?_) (fun _ hf => ?_)
  · refine ex_pu (ls' := [vR 165, vI v1, vI v2]) (st' := [vI v2]) (dg dc250 24 rfl) rfl rfl ?_
    refine ex_pu (ls' := [vR 165, vI v1, vI v2]) (st' := [vI 3, vI v2]) (dg dc250 25 rfl) rfl rfl ?_
    refine ex_icmp (t := 61) (dg dc250 26 rfl) rfl hf (fun _ hf => ?_) (fun _ hf => ?_)
    · refine ex_pu (ls' := [vR 165, vI v1, vI v2]) (st' := [vR 165]) (dg dc250 35 rfl) rfl rfl ?_
      refine ex_pu (ls' := [vR 165, vI v1, vI v2]) (st' := [vI v1, vR 165]) (dg dc250 36 rfl) rfl rfl ?_
      refine ex_pu (ls' := [vR 165, vI v1, vI v2]) (st' := [vI v2, vI v1, vR 165]) (dg dc250 37 rfl) rfl rfl ?_
      refine ex_cI (vs := [vR 165, vI v1, vI v2]) (st' := []) (F := (mo_ofThing v1 v2 M_13)) (Or.inr (Or.inl ⟨rfl, (dg dc250 38 rfl)⟩)) rfl rfl (rk1 (LOC.st (Nat.le_of_ble_eq_true rfl) rfl) rfl) rfl (fun _ r9 => mo_ofThing_ok (Z := Z) (d := e9) (by omega)  r9) hf (fun z_17 M_16 he_15 hf => ?_)
      exact ex_ire (dg dc250 39 rfl) rfl hf
    · refine ex_pu (ls' := [vR 165, vI v1, vI v2]) (st' := [vR 165]) (dg dc250 27 rfl) rfl rfl ?_
      refine ex_pu (ls' := [vR 165, vI v1, vI v2]) (st' := [vI v1, vR 165]) (dg dc250 28 rfl) rfl rfl ?_
      refine ex_pu (ls' := [vR 165, vI v1, vI v2]) (st' := [vI 2, vI v1, vR 165]) (dg dc250 29 rfl) rfl rfl ?_
      refine ex_cI (vs := [vR 165, vI v1, vI 2]) (st' := []) (F := (mo_ofThing v1 2 M_13)) (Or.inr (Or.inl ⟨rfl, (dg dc250 30 rfl)⟩)) rfl rfl (rk1 (LOC.st (Nat.le_of_ble_eq_true rfl) rfl) rfl) rfl (fun _ r9 => mo_ofThing_ok (Z := Z) (d := e9) (by omega)  r9) hf (fun z_20 M_19 he_18 hf => ?_)
      refine ex_pu (ls' := [vR 165, vI v1, vI v2]) (st' := [vI 1, vI z_20]) (dg dc250 31 rfl) rfl rfl ?_
      refine ex_icmp (t := 61) (dg dc250 32 rfl) rfl hf (fun _ hf => ?_) (fun _ hf => ?_)
      · refine ex_pu (ls' := [vR 165, vI v1, vI v2]) (st' := [vR 165]) (dg dc250 35 rfl) rfl rfl ?_
        refine ex_pu (ls' := [vR 165, vI v1, vI v2]) (st' := [vI v1, vR 165]) (dg dc250 36 rfl) rfl rfl ?_
        refine ex_pu (ls' := [vR 165, vI v1, vI v2]) (st' := [vI v2, vI v1, vR 165]) (dg dc250 37 rfl) rfl rfl ?_
        refine ex_cI (vs := [vR 165, vI v1, vI v2]) (st' := []) (F := (mo_ofThing v1 v2 M_19)) (Or.inr (Or.inl ⟨rfl, (dg dc250 38 rfl)⟩)) rfl rfl (rk1 (LOC.st (Nat.le_of_ble_eq_true rfl) rfl) rfl) rfl (fun _ r9 => mo_ofThing_ok (Z := Z) (d := e9) (by omega)  r9) hf (fun z_23 M_22 he_21 hf => ?_)
        exact ex_ire (dg dc250 39 rfl) rfl hf
      · refine ex_pu (ls' := [vR 165, vI v1, vI v2]) (st' := [vI (-1)]) (dg dc250 33 rfl) rfl rfl ?_
        refine ex_goto (t := 67) (dg dc250 34 rfl) rfl rfl ?_
        exact ex_ire (dg dc250 39 rfl) rfl hf
  · refine ex_pu (ls' := [vR 165, vI v1, vI v2]) (st' := [vI 0]) (dg dc250 22 rfl) rfl rfl ?_
    exact ex_ire (dg dc250 23 rfl) rfl hf
def mo_thing (v1 : Int) (v2 : Int) (M : MM) : OR :=
  (sM (mU M 165 0 0) fun M_1 => (bI (mo_noThing v1 M_1) fun z_5 M_4 => (bI (mo_throwsIf z_5 1 M_4) fun z_8 M_7 => (bif cmpB .ne z_8 0 then some (rI 0, M_7) else (bI (mo_in v2 0 3 M_7) fun z_11 M_10 => (bif cmpB .ne z_11 0 then (mo_thing_J33   v1 v2 0 M_10) else (mo_thing_J33   v1 v2 1 M_10)))))))
set_option maxRecDepth 4000 in
theorem mo_thing_ok {Z : Nat × (Nat → Int)} {d : Nat} (hd : 2 ≤ d) {M : MM}  {v1 v2 : Int} {res : AR × MM} (hf : mo_thing v1 v2 M = some res) : EX Z d 250 0 (ent 250 [vR 165, vI v1, vI v2]) [] M res := by
  obtain ⟨e9, rfl⟩ : ∃ e9, d = e9 + 1 := ⟨d - 1, by omega⟩
  unfold mo_thing at hf
  show EX Z _ 250 0 [vR 165, vI v1, vI v2] [] M res
  refine ex_pu (ls' := [vR 165, vI v1, vI v2]) (st' := [vR 165]) (dg dc250 0 rfl) rfl rfl ?_
  refine ex_pu (ls' := [vR 165, vI v1, vI v2]) (st' := [vI 0, vR 165]) (dg dc250 1 rfl) rfl rfl ?_
  refine ex_putI (dg dc250 2 rfl) rfl (LOC.st (Nat.le_of_ble_eq_true rfl) rfl) rfl rfl rfl ?_
  refine ex_gen hf (fun M_1 hM_2 hf => ?_)
  refine ex_pu (ls' := [vR 165, vI v1, vI v2]) (st' := [vR 165]) (dg dc250 3 rfl) rfl rfl ?_
  refine ex_pu (ls' := [vR 165, vI v1, vI v2]) (st' := [vR 165, vR 165]) (dg dc250 4 rfl) rfl rfl ?_
  refine ex_pu (ls' := [vR 165, vI v1, vI v2]) (st' := [vI v1, vR 165, vR 165]) (dg dc250 5 rfl) rfl rfl ?_
  refine ex_cI (vs := [vR 165, vI v1]) (st' := [vR 165]) (F := (mo_noThing v1 M_1)) (Or.inr (Or.inl ⟨rfl, (dg dc250 6 rfl)⟩)) rfl rfl (rk1 (LOC.st (Nat.le_of_ble_eq_true rfl) rfl) rfl) rfl (fun _ r9 => mo_noThing_ok (Z := Z) (d := e9) (by omega)  r9) hf (fun z_5 M_4 he_3 hf => ?_)
  refine ex_pu (ls' := [vR 165, vI v1, vI v2]) (st' := [vI 1, vI z_5, vR 165]) (dg dc250 7 rfl) rfl rfl ?_
  refine ex_cI (vs := [vR 165, vI z_5, vI 1]) (st' := []) (F := (mo_throwsIf z_5 1 M_4)) (Or.inr (Or.inl ⟨rfl, (dg dc250 8 rfl)⟩)) rfl rfl (rk1 (LOC.st (Nat.le_of_ble_eq_true rfl) rfl) rfl) rfl (fun _ r9 => mo_throwsIf_ok (Z := Z) (d := e9) (by omega)  r9) hf (fun z_8 M_7 he_6 hf => ?_)
  refine ex_if (t := 40) (dg dc250 9 rfl) rfl hf (fun _ hf => ?_) (fun _ hf => ?_)
  · refine ex_pu (ls' := [vR 165, vI v1, vI v2]) (st' := [vI 0]) (dg dc250 22 rfl) rfl rfl ?_
    exact ex_ire (dg dc250 23 rfl) rfl hf
  · refine ex_pu (ls' := [vR 165, vI v1, vI v2]) (st' := [vR 165]) (dg dc250 10 rfl) rfl rfl ?_
    refine ex_pu (ls' := [vR 165, vI v1, vI v2]) (st' := [vI v2, vR 165]) (dg dc250 11 rfl) rfl rfl ?_
    refine ex_pu (ls' := [vR 165, vI v1, vI v2]) (st' := [vI 0, vI v2, vR 165]) (dg dc250 12 rfl) rfl rfl ?_
    refine ex_pu (ls' := [vR 165, vI v1, vI v2]) (st' := [vI 3, vI 0, vI v2, vR 165]) (dg dc250 13 rfl) rfl rfl ?_
    refine ex_cI (vs := [vI v2, vI 0, vI 3]) (st' := [vR 165]) (F := (mo_in v2 0 3 M_7)) (Or.inl ⟨rfl, (dg dc250 14 rfl)⟩) rfl rfl (Or.inl rfl) rfl (fun _ r9 => mo_in_ok (Z := Z) (d := e9) (by omega)  r9) hf (fun z_11 M_10 he_9 hf => ?_)
    refine ex_if (t := 32) (dg dc250 15 rfl) rfl hf (fun _ hf => ?_) (fun _ hf => ?_)
    · refine ex_pu (ls' := [vR 165, vI v1, vI v2]) (st' := [vI 0, vR 165]) (dg dc250 18 rfl) rfl rfl ?_
      exact mo_thing_J33_ok hd   v1 v2 0 M_10 hf
    · refine ex_pu (ls' := [vR 165, vI v1, vI v2]) (st' := [vI 1, vR 165]) (dg dc250 16 rfl) rfl rfl ?_
      refine ex_goto (t := 33) (dg dc250 17 rfl) rfl rfl ?_
      exact mo_thing_J33_ok hd   v1 v2 1 M_10 hf
-- GlassHillModel.road
def il251 : List (Nat × Instr × Nat) := [(0, .aload_n 0, 1), (1, .iconst 0, 1), (2, .putfield 3, 3), (5, .aload_n 0, 1), (6, .aload_n 0, 1), (7, .iload_n 1, 1), (8, .invokevirtual 402, 3), (11, .iconst 1, 1), (12, .invokevirtual 274, 3), (15, .ifCond .ne 25, 3), (18, .aload_n 0, 1), (19, .iload_n 2, 1), (20, .iconst 0, 1), (21, .iconst 3, 1), (22, .invokestatic 80, 3), (25, .ifCond .ne 7, 3), (28, .iconst 1, 1), (29, .goto 4, 3), (32, .iconst 0, 1), (33, .iconst 2, 1), (34, .invokevirtual 274, 3), (37, .ifCond .eq 7, 3), (40, .iconst 0, 1), (41, .goto 9, 3), (44, .aload_n 0, 1), (45, .iload_n 1, 1), (46, .iload_n 2, 1), (47, .invokevirtual 352, 3), (50, .ireturn, 1)]
theorem dc251 : dcs (mC 251) il251 := dc_of (by decide +kernel)
def mo_road (v1 : Int) (v2 : Int) (M : MM) : OR :=
  (sM (mU M 165 0 0) fun M_1 => (bI (mo_noRoad v1 M_1) fun z_5 M_4 => (bI (mo_throwsIf z_5 1 M_4) fun z_8 M_7 => (bif cmpB .ne z_8 0 then some (rI 0, M_7) else (bI (mo_in v2 0 3 M_7) fun z_11 M_10 => (bif cmpB .ne z_11 0 then (bI (mo_throwsIf 0 2 M_10) fun z_14 M_13 => (bif cmpB .eq z_14 0 then (bI (mo_ofRoad v1 v2 M_13) fun z_17 M_16 => some (rI z_17, M_16)) else some (rI 0, M_13))) else (bI (mo_throwsIf 1 2 M_10) fun z_20 M_19 => (bif cmpB .eq z_20 0 then (bI (mo_ofRoad v1 v2 M_19) fun z_23 M_22 => some (rI z_23, M_22)) else some (rI 0, M_19)))))))))
set_option maxRecDepth 4000 in
theorem mo_road_ok {Z : Nat × (Nat → Int)} {d : Nat} (hd : 2 ≤ d) {M : MM}  {v1 v2 : Int} {res : AR × MM} (hf : mo_road v1 v2 M = some res) : EX Z d 251 0 (ent 251 [vR 165, vI v1, vI v2]) [] M res := by
  obtain ⟨e9, rfl⟩ : ∃ e9, d = e9 + 1 := ⟨d - 1, by omega⟩
  unfold mo_road at hf
  show EX Z _ 251 0 [vR 165, vI v1, vI v2] [] M res
  refine ex_pu (ls' := [vR 165, vI v1, vI v2]) (st' := [vR 165]) (dg dc251 0 rfl) rfl rfl ?_
  refine ex_pu (ls' := [vR 165, vI v1, vI v2]) (st' := [vI 0, vR 165]) (dg dc251 1 rfl) rfl rfl ?_
  refine ex_putI (dg dc251 2 rfl) rfl (LOC.st (Nat.le_of_ble_eq_true rfl) rfl) rfl rfl rfl ?_
  refine ex_gen hf (fun M_1 hM_2 hf => ?_)
  refine ex_pu (ls' := [vR 165, vI v1, vI v2]) (st' := [vR 165]) (dg dc251 3 rfl) rfl rfl ?_
  refine ex_pu (ls' := [vR 165, vI v1, vI v2]) (st' := [vR 165, vR 165]) (dg dc251 4 rfl) rfl rfl ?_
  refine ex_pu (ls' := [vR 165, vI v1, vI v2]) (st' := [vI v1, vR 165, vR 165]) (dg dc251 5 rfl) rfl rfl ?_
  refine ex_cI (vs := [vR 165, vI v1]) (st' := [vR 165]) (F := (mo_noRoad v1 M_1)) (Or.inr (Or.inl ⟨rfl, (dg dc251 6 rfl)⟩)) rfl rfl (rk1 (LOC.st (Nat.le_of_ble_eq_true rfl) rfl) rfl) rfl (fun _ r9 => mo_noRoad_ok (Z := Z) (d := e9) (by omega)  r9) hf (fun z_5 M_4 he_3 hf => ?_)
  refine ex_pu (ls' := [vR 165, vI v1, vI v2]) (st' := [vI 1, vI z_5, vR 165]) (dg dc251 7 rfl) rfl rfl ?_
  refine ex_cI (vs := [vR 165, vI z_5, vI 1]) (st' := []) (F := (mo_throwsIf z_5 1 M_4)) (Or.inr (Or.inl ⟨rfl, (dg dc251 8 rfl)⟩)) rfl rfl (rk1 (LOC.st (Nat.le_of_ble_eq_true rfl) rfl) rfl) rfl (fun _ r9 => mo_throwsIf_ok (Z := Z) (d := e9) (by omega)  r9) hf (fun z_8 M_7 he_6 hf => ?_)
  refine ex_if (t := 40) (dg dc251 9 rfl) rfl hf (fun _ hf => ?_) (fun _ hf => ?_)
  · refine ex_pu (ls' := [vR 165, vI v1, vI v2]) (st' := [vI 0]) (dg dc251 22 rfl) rfl rfl ?_
    refine ex_goto (t := 50) (dg dc251 23 rfl) rfl rfl ?_
    exact ex_ire (dg dc251 28 rfl) rfl hf
  · refine ex_pu (ls' := [vR 165, vI v1, vI v2]) (st' := [vR 165]) (dg dc251 10 rfl) rfl rfl ?_
    refine ex_pu (ls' := [vR 165, vI v1, vI v2]) (st' := [vI v2, vR 165]) (dg dc251 11 rfl) rfl rfl ?_
    refine ex_pu (ls' := [vR 165, vI v1, vI v2]) (st' := [vI 0, vI v2, vR 165]) (dg dc251 12 rfl) rfl rfl ?_
    refine ex_pu (ls' := [vR 165, vI v1, vI v2]) (st' := [vI 3, vI 0, vI v2, vR 165]) (dg dc251 13 rfl) rfl rfl ?_
    refine ex_cI (vs := [vI v2, vI 0, vI 3]) (st' := [vR 165]) (F := (mo_in v2 0 3 M_7)) (Or.inl ⟨rfl, (dg dc251 14 rfl)⟩) rfl rfl (Or.inl rfl) rfl (fun _ r9 => mo_in_ok (Z := Z) (d := e9) (by omega)  r9) hf (fun z_11 M_10 he_9 hf => ?_)
    refine ex_if (t := 32) (dg dc251 15 rfl) rfl hf (fun _ hf => ?_) (fun _ hf => ?_)
    · refine ex_pu (ls' := [vR 165, vI v1, vI v2]) (st' := [vI 0, vR 165]) (dg dc251 18 rfl) rfl rfl ?_
      refine ex_pu (ls' := [vR 165, vI v1, vI v2]) (st' := [vI 2, vI 0, vR 165]) (dg dc251 19 rfl) rfl rfl ?_
      refine ex_cI (vs := [vR 165, vI 0, vI 2]) (st' := []) (F := (mo_throwsIf 0 2 M_10)) (Or.inr (Or.inl ⟨rfl, (dg dc251 20 rfl)⟩)) rfl rfl (rk1 (LOC.st (Nat.le_of_ble_eq_true rfl) rfl) rfl) rfl (fun _ r9 => mo_throwsIf_ok (Z := Z) (d := e9) (by omega)  r9) hf (fun z_14 M_13 he_12 hf => ?_)
      refine ex_if (t := 44) (dg dc251 21 rfl) rfl hf (fun _ hf => ?_) (fun _ hf => ?_)
      · refine ex_pu (ls' := [vR 165, vI v1, vI v2]) (st' := [vR 165]) (dg dc251 24 rfl) rfl rfl ?_
        refine ex_pu (ls' := [vR 165, vI v1, vI v2]) (st' := [vI v1, vR 165]) (dg dc251 25 rfl) rfl rfl ?_
        refine ex_pu (ls' := [vR 165, vI v1, vI v2]) (st' := [vI v2, vI v1, vR 165]) (dg dc251 26 rfl) rfl rfl ?_
        refine ex_cI (vs := [vR 165, vI v1, vI v2]) (st' := []) (F := (mo_ofRoad v1 v2 M_13)) (Or.inr (Or.inl ⟨rfl, (dg dc251 27 rfl)⟩)) rfl rfl (rk1 (LOC.st (Nat.le_of_ble_eq_true rfl) rfl) rfl) rfl (fun _ r9 => mo_ofRoad_ok (Z := Z) (d := e9) (by omega)  r9) hf (fun z_17 M_16 he_15 hf => ?_)
        exact ex_ire (dg dc251 28 rfl) rfl hf
      · refine ex_pu (ls' := [vR 165, vI v1, vI v2]) (st' := [vI 0]) (dg dc251 22 rfl) rfl rfl ?_
        refine ex_goto (t := 50) (dg dc251 23 rfl) rfl rfl ?_
        exact ex_ire (dg dc251 28 rfl) rfl hf
    · refine ex_pu (ls' := [vR 165, vI v1, vI v2]) (st' := [vI 1, vR 165]) (dg dc251 16 rfl) rfl rfl ?_
      refine ex_goto (t := 33) (dg dc251 17 rfl) rfl rfl ?_
      refine ex_pu (ls' := [vR 165, vI v1, vI v2]) (st' := [vI 2, vI 1, vR 165]) (dg dc251 19 rfl) rfl rfl ?_
      refine ex_cI (vs := [vR 165, vI 1, vI 2]) (st' := []) (F := (mo_throwsIf 1 2 M_10)) (Or.inr (Or.inl ⟨rfl, (dg dc251 20 rfl)⟩)) rfl rfl (rk1 (LOC.st (Nat.le_of_ble_eq_true rfl) rfl) rfl) rfl (fun _ r9 => mo_throwsIf_ok (Z := Z) (d := e9) (by omega)  r9) hf (fun z_20 M_19 he_18 hf => ?_)
      refine ex_if (t := 44) (dg dc251 21 rfl) rfl hf (fun _ hf => ?_) (fun _ hf => ?_)
      · refine ex_pu (ls' := [vR 165, vI v1, vI v2]) (st' := [vR 165]) (dg dc251 24 rfl) rfl rfl ?_
        refine ex_pu (ls' := [vR 165, vI v1, vI v2]) (st' := [vI v1, vR 165]) (dg dc251 25 rfl) rfl rfl ?_
        refine ex_pu (ls' := [vR 165, vI v1, vI v2]) (st' := [vI v2, vI v1, vR 165]) (dg dc251 26 rfl) rfl rfl ?_
        refine ex_cI (vs := [vR 165, vI v1, vI v2]) (st' := []) (F := (mo_ofRoad v1 v2 M_19)) (Or.inr (Or.inl ⟨rfl, (dg dc251 27 rfl)⟩)) rfl rfl (rk1 (LOC.st (Nat.le_of_ble_eq_true rfl) rfl) rfl) rfl (fun _ r9 => mo_ofRoad_ok (Z := Z) (d := e9) (by omega)  r9) hf (fun z_23 M_22 he_21 hf => ?_)
        exact ex_ire (dg dc251 28 rfl) rfl hf
      · refine ex_pu (ls' := [vR 165, vI v1, vI v2]) (st' := [vI 0]) (dg dc251 22 rfl) rfl rfl ?_
        refine ex_goto (t := 50) (dg dc251 23 rfl) rfl rfl ?_
        exact ex_ire (dg dc251 28 rfl) rfl hf
-- GlassHillModel.homeOf
def il252 : List (Nat × Instr × Nat) := [(0, .aload_n 0, 1), (1, .iload_n 1, 1), (2, .iconst 5, 1), (3, .invokevirtual 287, 3), (6, .ifCond .ge 7, 3), (9, .iconst (-1), 1), (10, .goto 16, 3), (13, .aload_n 0, 1), (14, .iload_n 1, 1), (15, .iconst 5, 1), (16, .invokevirtual 287, 3), (19, .aload_n 0, 1), (20, .iload_n 1, 1), (21, .iconst 3, 1), (22, .invokevirtual 287, 3), (25, .iadd, 1), (26, .ireturn, 1)]
theorem dc252 : dcs (mC 252) il252 := dc_of (by decide +kernel)
def mo_homeOf (v1 : Int) (M : MM) : OR :=
  (bI (mo_ofBrother v1 5 M) fun z_3 M_2 => (bif cmpB .ge z_3 0 then (bI (mo_ofBrother v1 5 M_2) fun z_6 M_5 => (bI (mo_ofBrother v1 3 M_5) fun z_9 M_8 => some (rI (z_6 + z_9), M_8))) else some (rI (-1), M_2)))
set_option maxRecDepth 4000 in
theorem mo_homeOf_ok {Z : Nat × (Nat → Int)} {d : Nat} (hd : 1 ≤ d) {M : MM}  {v1 : Int} {res : AR × MM} (hf : mo_homeOf v1 M = some res) : EX Z d 252 0 (ent 252 [vR 165, vI v1]) [] M res := by
  obtain ⟨e9, rfl⟩ : ∃ e9, d = e9 + 1 := ⟨d - 1, by omega⟩
  unfold mo_homeOf at hf
  show EX Z _ 252 0 [vR 165, vI v1] [] M res
  refine ex_pu (ls' := [vR 165, vI v1]) (st' := [vR 165]) (dg dc252 0 rfl) rfl rfl ?_
  refine ex_pu (ls' := [vR 165, vI v1]) (st' := [vI v1, vR 165]) (dg dc252 1 rfl) rfl rfl ?_
  refine ex_pu (ls' := [vR 165, vI v1]) (st' := [vI 5, vI v1, vR 165]) (dg dc252 2 rfl) rfl rfl ?_
  refine ex_cI (vs := [vR 165, vI v1, vI 5]) (st' := []) (F := (mo_ofBrother v1 5 M)) (Or.inr (Or.inl ⟨rfl, (dg dc252 3 rfl)⟩)) rfl rfl (rk1 (LOC.st (Nat.le_of_ble_eq_true rfl) rfl) rfl) rfl (fun _ r9 => mo_ofBrother_ok (Z := Z) (d := e9) (by omega)  r9) hf (fun z_3 M_2 he_1 hf => ?_)
  refine ex_if (t := 13) (dg dc252 4 rfl) rfl hf (fun _ hf => ?_) (fun _ hf => ?_)
  · refine ex_pu (ls' := [vR 165, vI v1]) (st' := [vR 165]) (dg dc252 7 rfl) rfl rfl ?_
    refine ex_pu (ls' := [vR 165, vI v1]) (st' := [vI v1, vR 165]) (dg dc252 8 rfl) rfl rfl ?_
    refine ex_pu (ls' := [vR 165, vI v1]) (st' := [vI 5, vI v1, vR 165]) (dg dc252 9 rfl) rfl rfl ?_
    refine ex_cI (vs := [vR 165, vI v1, vI 5]) (st' := []) (F := (mo_ofBrother v1 5 M_2)) (Or.inr (Or.inl ⟨rfl, (dg dc252 10 rfl)⟩)) rfl rfl (rk1 (LOC.st (Nat.le_of_ble_eq_true rfl) rfl) rfl) rfl (fun _ r9 => mo_ofBrother_ok (Z := Z) (d := e9) (by omega)  r9) hf (fun z_6 M_5 he_4 hf => ?_)
    refine ex_pu (ls' := [vR 165, vI v1]) (st' := [vR 165, vI z_6]) (dg dc252 11 rfl) rfl rfl ?_
    refine ex_pu (ls' := [vR 165, vI v1]) (st' := [vI v1, vR 165, vI z_6]) (dg dc252 12 rfl) rfl rfl ?_
    refine ex_pu (ls' := [vR 165, vI v1]) (st' := [vI 3, vI v1, vR 165, vI z_6]) (dg dc252 13 rfl) rfl rfl ?_
    refine ex_cI (vs := [vR 165, vI v1, vI 3]) (st' := [vI z_6]) (F := (mo_ofBrother v1 3 M_5)) (Or.inr (Or.inl ⟨rfl, (dg dc252 14 rfl)⟩)) rfl rfl (rk1 (LOC.st (Nat.le_of_ble_eq_true rfl) rfl) rfl) rfl (fun _ r9 => mo_ofBrother_ok (Z := Z) (d := e9) (by omega)  r9) hf (fun z_9 M_8 he_7 hf => ?_)
    refine ex_pu (ls' := [vR 165, vI v1]) (st' := [vI (z_6 + z_9)]) (dg dc252 15 rfl) rfl rfl ?_
    exact ex_ire (dg dc252 16 rfl) rfl hf
  · refine ex_pu (ls' := [vR 165, vI v1]) (st' := [vI (-1)]) (dg dc252 5 rfl) rfl rfl ?_
    refine ex_goto (t := 26) (dg dc252 6 rfl) rfl rfl ?_
    exact ex_ire (dg dc252 16 rfl) rfl hf
-- GlassHillModel.brother
def il253 : List (Nat × Instr × Nat) := [(0, .aload_n 0, 1), (1, .iconst 0, 1), (2, .putfield 3, 3), (5, .aload_n 0, 1), (6, .aload_n 0, 1), (7, .iload_n 1, 1), (8, .invokevirtual 405, 3), (11, .iconst 1, 1), (12, .invokevirtual 274, 3), (15, .ifCond .ne 26, 3), (18, .aload_n 0, 1), (19, .iload_n 2, 1), (20, .iconst 0, 1), (21, .bipush 6, 2), (23, .invokestatic 80, 3), (26, .ifCond .ne 7, 3), (29, .iconst 1, 1), (30, .goto 4, 3), (33, .iconst 0, 1), (34, .iconst 2, 1), (35, .invokevirtual 274, 3), (38, .ifCond .eq 5, 3), (41, .iconst 0, 1), (42, .ireturn, 1), (43, .iload_n 2, 1), (44, .bipush 6, 2), (46, .if_icmp .ne 11, 3), (49, .aload_n 0, 1), (50, .iload_n 1, 1), (51, .invokevirtual 408, 3), (54, .goto 9, 3), (57, .aload_n 0, 1), (58, .iload_n 1, 1), (59, .iload_n 2, 1), (60, .invokevirtual 287, 3), (63, .ireturn, 1)]
theorem dc253 : dcs (mC 253) il253 := dc_of (by decide +kernel)
def mo_brother_J34   (v1 v2 s0 : Int) (M : MM) : OR :=
  (bI (mo_throwsIf s0 2 M) fun z_14 M_13 => (bif cmpB .eq z_14 0 then (bif cmpB .ne v2 6 then (bI (mo_ofBrother v1 v2 M_13) fun z_17 M_16 => some (rI z_17, M_16)) else (bI (mo_homeOf v1 M_13) fun z_20 M_19 => some (rI z_20, M_19))) else some (rI 0, M_13)))
set_option maxRecDepth 4000 in
theorem mo_brother_J34_ok {Z : Nat × (Nat → Int)} {d : Nat} (hd : 2 ≤ d)   {res : AR × MM}  : ∀ (v1 v2 s0 : Int) (M : MM), mo_brother_J34   v1 v2 s0 M = some res → EX Z d 253 34 [vR 165, vI v1, vI v2] [vI s0, vR 165] M res := by
  obtain ⟨e9, rfl⟩ : ∃ e9, d = e9 + 1 := ⟨d - 1, by omega⟩
  intro v1 v2 s0 M hf
  unfold mo_brother_J34 at hf
  refine ex_pu (ls' := [vR 165, vI v1, vI v2]) (st' := [vI 2, vI s0, vR 165]) (dg dc253 19 rfl) rfl rfl ?_
  refine ex_cI (vs := [vR 165, vI s0, vI 2]) (st' := []) (F := (mo_throwsIf s0 2 M)) (Or.inr (Or.inl ⟨rfl, (dg dc253 20 rfl)⟩)) rfl rfl (rk1 (LOC.st (Nat.le_of_ble_eq_true rfl) rfl) rfl) rfl (fun _ r9 => mo_throwsIf_ok (Z := Z) (d := e9) (by omega)  r9) hf (fun z_14 M_13 he_12 hf => ?_)
  refine ex_if (t := 43) (dg dc253 21 rfl) rfl hf (fun _ hf => ?_) (fun _ hf => ?_)
  · refine ex_pu (ls' := [vR 165, vI v1, vI v2]) (st' := [vI v2]) (dg dc253 24 rfl) rfl rfl ?_
    refine ex_pu (ls' := [vR 165, vI v1, vI v2]) (st' := [vI 6, vI v2]) (dg dc253 25 rfl) rfl rfl ?_
    refine ex_icmp (t := 57) (dg dc253 26 rfl) rfl hf (fun _ hf => ?_) (fun _ hf => ?_)
    · refine ex_pu (ls' := [vR 165, vI v1, vI v2]) (st' := [vR 165]) (dg dc253 31 rfl) rfl rfl ?_
      refine ex_pu (ls' := [vR 165, vI v1, vI v2]) (st' := [vI v1, vR 165]) (dg dc253 32 rfl) rfl rfl ?_
      refine ex_pu (ls' := [vR 165, vI v1, vI v2]) (st' := [vI v2, vI v1, vR 165]) (dg dc253 33 rfl) rfl rfl ?_
      refine ex_cI (vs := [vR 165, vI v1, vI v2]) (st' := []) (F := (mo_ofBrother v1 v2 M_13)) (Or.inr (Or.inl ⟨rfl, (dg dc253 34 rfl)⟩)) rfl rfl (rk1 (LOC.st (Nat.le_of_ble_eq_true rfl) rfl) rfl) rfl (fun _ r9 => mo_ofBrother_ok (Z := Z) (d := e9) (by omega)  r9) hf (fun z_17 M_16 he_15 hf => ?_)
      exact ex_ire (dg dc253 35 rfl) rfl hf
    · refine ex_pu (ls' := [vR 165, vI v1, vI v2]) (st' := [vR 165]) (dg dc253 27 rfl) rfl rfl ?_
      refine ex_pu (ls' := [vR 165, vI v1, vI v2]) (st' := [vI v1, vR 165]) (dg dc253 28 rfl) rfl rfl ?_
      refine ex_cI (vs := [vR 165, vI v1]) (st' := []) (F := (mo_homeOf v1 M_13)) (Or.inr (Or.inl ⟨rfl, (dg dc253 29 rfl)⟩)) rfl rfl (rk1 (LOC.st (Nat.le_of_ble_eq_true rfl) rfl) rfl) rfl (fun _ r9 => mo_homeOf_ok (Z := Z) (d := e9) (by omega)  r9) hf (fun z_20 M_19 he_18 hf => ?_)
      refine ex_goto (t := 63) (dg dc253 30 rfl) rfl rfl ?_
      exact ex_ire (dg dc253 35 rfl) rfl hf
  · refine ex_pu (ls' := [vR 165, vI v1, vI v2]) (st' := [vI 0]) (dg dc253 22 rfl) rfl rfl ?_
    exact ex_ire (dg dc253 23 rfl) rfl hf
def mo_brother (v1 : Int) (v2 : Int) (M : MM) : OR :=
  (sM (mU M 165 0 0) fun M_1 => (bI (mo_noBrother v1 M_1) fun z_5 M_4 => (bI (mo_throwsIf z_5 1 M_4) fun z_8 M_7 => (bif cmpB .ne z_8 0 then some (rI 0, M_7) else (bI (mo_in v2 0 6 M_7) fun z_11 M_10 => (bif cmpB .ne z_11 0 then (mo_brother_J34   v1 v2 0 M_10) else (mo_brother_J34   v1 v2 1 M_10)))))))
set_option maxRecDepth 4000 in
theorem mo_brother_ok {Z : Nat × (Nat → Int)} {d : Nat} (hd : 2 ≤ d) {M : MM}  {v1 v2 : Int} {res : AR × MM} (hf : mo_brother v1 v2 M = some res) : EX Z d 253 0 (ent 253 [vR 165, vI v1, vI v2]) [] M res := by
  obtain ⟨e9, rfl⟩ : ∃ e9, d = e9 + 1 := ⟨d - 1, by omega⟩
  unfold mo_brother at hf
  show EX Z _ 253 0 [vR 165, vI v1, vI v2] [] M res
  refine ex_pu (ls' := [vR 165, vI v1, vI v2]) (st' := [vR 165]) (dg dc253 0 rfl) rfl rfl ?_
  refine ex_pu (ls' := [vR 165, vI v1, vI v2]) (st' := [vI 0, vR 165]) (dg dc253 1 rfl) rfl rfl ?_
  refine ex_putI (dg dc253 2 rfl) rfl (LOC.st (Nat.le_of_ble_eq_true rfl) rfl) rfl rfl rfl ?_
  refine ex_gen hf (fun M_1 hM_2 hf => ?_)
  refine ex_pu (ls' := [vR 165, vI v1, vI v2]) (st' := [vR 165]) (dg dc253 3 rfl) rfl rfl ?_
  refine ex_pu (ls' := [vR 165, vI v1, vI v2]) (st' := [vR 165, vR 165]) (dg dc253 4 rfl) rfl rfl ?_
  refine ex_pu (ls' := [vR 165, vI v1, vI v2]) (st' := [vI v1, vR 165, vR 165]) (dg dc253 5 rfl) rfl rfl ?_
  refine ex_cI (vs := [vR 165, vI v1]) (st' := [vR 165]) (F := (mo_noBrother v1 M_1)) (Or.inr (Or.inl ⟨rfl, (dg dc253 6 rfl)⟩)) rfl rfl (rk1 (LOC.st (Nat.le_of_ble_eq_true rfl) rfl) rfl) rfl (fun _ r9 => mo_noBrother_ok (Z := Z) (d := e9) (by omega)  r9) hf (fun z_5 M_4 he_3 hf => ?_)
  refine ex_pu (ls' := [vR 165, vI v1, vI v2]) (st' := [vI 1, vI z_5, vR 165]) (dg dc253 7 rfl) rfl rfl ?_
  refine ex_cI (vs := [vR 165, vI z_5, vI 1]) (st' := []) (F := (mo_throwsIf z_5 1 M_4)) (Or.inr (Or.inl ⟨rfl, (dg dc253 8 rfl)⟩)) rfl rfl (rk1 (LOC.st (Nat.le_of_ble_eq_true rfl) rfl) rfl) rfl (fun _ r9 => mo_throwsIf_ok (Z := Z) (d := e9) (by omega)  r9) hf (fun z_8 M_7 he_6 hf => ?_)
  refine ex_if (t := 41) (dg dc253 9 rfl) rfl hf (fun _ hf => ?_) (fun _ hf => ?_)
  · refine ex_pu (ls' := [vR 165, vI v1, vI v2]) (st' := [vI 0]) (dg dc253 22 rfl) rfl rfl ?_
    exact ex_ire (dg dc253 23 rfl) rfl hf
  · refine ex_pu (ls' := [vR 165, vI v1, vI v2]) (st' := [vR 165]) (dg dc253 10 rfl) rfl rfl ?_
    refine ex_pu (ls' := [vR 165, vI v1, vI v2]) (st' := [vI v2, vR 165]) (dg dc253 11 rfl) rfl rfl ?_
    refine ex_pu (ls' := [vR 165, vI v1, vI v2]) (st' := [vI 0, vI v2, vR 165]) (dg dc253 12 rfl) rfl rfl ?_
    refine ex_pu (ls' := [vR 165, vI v1, vI v2]) (st' := [vI 6, vI 0, vI v2, vR 165]) (dg dc253 13 rfl) rfl rfl ?_
    refine ex_cI (vs := [vI v2, vI 0, vI 6]) (st' := [vR 165]) (F := (mo_in v2 0 6 M_7)) (Or.inl ⟨rfl, (dg dc253 14 rfl)⟩) rfl rfl (Or.inl rfl) rfl (fun _ r9 => mo_in_ok (Z := Z) (d := e9) (by omega)  r9) hf (fun z_11 M_10 he_9 hf => ?_)
    refine ex_if (t := 33) (dg dc253 15 rfl) rfl hf (fun _ hf => ?_) (fun _ hf => ?_)
    · refine ex_pu (ls' := [vR 165, vI v1, vI v2]) (st' := [vI 0, vR 165]) (dg dc253 18 rfl) rfl rfl ?_
      exact mo_brother_J34_ok hd   v1 v2 0 M_10 hf
    · refine ex_pu (ls' := [vR 165, vI v1, vI v2]) (st' := [vI 1, vR 165]) (dg dc253 16 rfl) rfl rfl ?_
      refine ex_goto (t := 34) (dg dc253 17 rfl) rfl rfl ?_
      exact mo_brother_J34_ok hd   v1 v2 1 M_10 hf
-- GlassHillModel.girl
def il254 : List (Nat × Instr × Nat) := [(0, .aload_n 0, 1), (1, .iconst 0, 1), (2, .putfield 3, 3), (5, .aload_n 0, 1), (6, .iload_n 1, 1), (7, .iconst 0, 1), (8, .iconst 4, 1), (9, .invokestatic 80, 3), (12, .ifCond .ne 7, 3), (15, .iconst 1, 1), (16, .goto 4, 3), (19, .iconst 0, 1), (20, .iconst 1, 1), (21, .invokevirtual 274, 3), (24, .ifCond .ne 23, 3), (27, .aload_n 0, 1), (28, .aload_n 0, 1), (29, .invokevirtual 76, 3), (32, .ifCond .ne 7, 3), (35, .iconst 1, 1), (36, .goto 4, 3), (39, .iconst 0, 1), (40, .iconst 2, 1), (41, .invokevirtual 274, 3), (44, .ifCond .eq 5, 3), (47, .iconst 0, 1), (48, .ireturn, 1), (49, .iload_n 1, 1), (50, .tableswitch 64 0 3 #[30, 38, 46, 54], 30), (80, .aload_n 0, 1), (81, .getfield 13, 3), (84, .bipush 7, 2), (86, .iaload, 1), (87, .ireturn, 1), (88, .aload_n 0, 1), (89, .getfield 13, 3), (92, .bipush 6, 2), (94, .iaload, 1), (95, .ireturn, 1), (96, .aload_n 0, 1), (97, .getfield 13, 3), (100, .bipush 8, 2), (102, .iaload, 1), (103, .ireturn, 1), (104, .aload_n 0, 1), (105, .aload_n 0, 1), (106, .invokevirtual 411, 3), (109, .iconst 2, 1), (110, .invokevirtual 358, 3), (113, .ireturn, 1), (114, .aload_n 0, 1), (115, .aload_n 0, 1), (116, .aload_n 0, 1), (117, .invokevirtual 411, 3), (120, .iconst 2, 1), (121, .invokevirtual 358, 3), (124, .invokevirtual 367, 3), (127, .ireturn, 1)]
theorem dc254 : dcs (mC 254) il254 := dc_of (by decide +kernel)
def mo_girl_J40   (v1 s0 : Int) (M : MM) : OR :=
  (bI (mo_throwsIf s0 2 M) fun z_14 M_13 => (bif cmpB .eq z_14 0 then (bif cmpB .eq v1 0 then (bif inB 7 1964 then some (rI (M_13 166 7), M_13) else none) else (bif cmpB .eq v1 1 then (bif inB 6 1964 then some (rI (M_13 166 6), M_13) else none) else (bif cmpB .eq v1 2 then (bif inB 8 1964 then some (rI (M_13 166 8), M_13) else none) else (bif cmpB .eq v1 3 then (bJ (mo_now  M_13) fun z_21 M_20 => (bI (mo_thingsIn z_21 2 M_20) fun z_24 M_23 => some (rI z_24, M_23))) else (bJ (mo_now  M_13) fun z_27 M_26 => (bI (mo_thingsIn z_27 2 M_26) fun z_30 M_29 => (bI (mo_worthOf z_30 M_29) fun z_33 M_32 => some (rI z_33, M_32)))))))) else some (rI 0, M_13)))
set_option maxRecDepth 4000 in
theorem mo_girl_J40_ok {Z : Nat × (Nat → Int)} {d : Nat} (hd : 3 ≤ d)   {res : AR × MM}  : ∀ (v1 s0 : Int) (M : MM), mo_girl_J40   v1 s0 M = some res → EX Z d 254 40 [vR 165, vI v1] [vI s0, vR 165] M res := by
  obtain ⟨e9, rfl⟩ : ∃ e9, d = e9 + 1 := ⟨d - 1, by omega⟩
  intro v1 s0 M hf
  unfold mo_girl_J40 at hf
  refine ex_pu (ls' := [vR 165, vI v1]) (st' := [vI 2, vI s0, vR 165]) (dg dc254 22 rfl) rfl rfl ?_
  refine ex_cI (vs := [vR 165, vI s0, vI 2]) (st' := []) (F := (mo_throwsIf s0 2 M)) (Or.inr (Or.inl ⟨rfl, (dg dc254 23 rfl)⟩)) rfl rfl (rk1 (LOC.st (Nat.le_of_ble_eq_true rfl) rfl) rfl) rfl (fun _ r9 => mo_throwsIf_ok (Z := Z) (d := e9) (by omega)  r9) hf (fun z_14 M_13 he_12 hf => ?_)
  refine ex_if (t := 49) (dg dc254 24 rfl) rfl hf (fun _ hf => ?_) (fun _ hf => ?_)
  · refine ex_pu (ls' := [vR 165, vI v1]) (st' := [vI v1]) (dg dc254 27 rfl) rfl rfl ?_
    refine ex_bif hf (fun hc_15 hf => ?_) (fun hc_15 hf => ?_)
    · refine ex_tsw (t := 80) (dg dc254 28 rfl) hc_15 (by decide +kernel) rfl ⟨by decide, by decide, by decide⟩ rfl ?_
      refine ex_pu (ls' := [vR 165, vI v1]) (st' := [vR 165]) (dg dc254 29 rfl) rfl rfl ?_
      refine ex_getO (dg dc254 30 rfl) rfl (LOC.st (Nat.le_of_ble_eq_true rfl) rfl) rfl ?_
      show EX Z _ 254 _ [vR 165, vI v1] [vR 166] _ _
      refine ex_pu (ls' := [vR 165, vI v1]) (st' := [vI 7, vR 166]) (dg dc254 31 rfl) rfl rfl ?_
      refine ex_iald (dg dc254 32 rfl) (LOC.st (Nat.le_of_ble_eq_true rfl) rfl) rfl hf (fun _ hf => ?_)
      exact ex_ire (dg dc254 33 rfl) rfl hf
    ·
      refine ex_bif hf (fun hc_16 hf => ?_) (fun hc_16 hf => ?_)
      · refine ex_tsw (t := 88) (dg dc254 28 rfl) hc_16 (by decide +kernel) rfl ⟨by decide, by decide, by decide⟩ rfl ?_
        refine ex_pu (ls' := [vR 165, vI v1]) (st' := [vR 165]) (dg dc254 34 rfl) rfl rfl ?_
        refine ex_getO (dg dc254 35 rfl) rfl (LOC.st (Nat.le_of_ble_eq_true rfl) rfl) rfl ?_
        show EX Z _ 254 _ [vR 165, vI v1] [vR 166] _ _
        refine ex_pu (ls' := [vR 165, vI v1]) (st' := [vI 6, vR 166]) (dg dc254 36 rfl) rfl rfl ?_
        refine ex_iald (dg dc254 37 rfl) (LOC.st (Nat.le_of_ble_eq_true rfl) rfl) rfl hf (fun _ hf => ?_)
        exact ex_ire (dg dc254 38 rfl) rfl hf
      ·
        refine ex_bif hf (fun hc_17 hf => ?_) (fun hc_17 hf => ?_)
        · refine ex_tsw (t := 96) (dg dc254 28 rfl) hc_17 (by decide +kernel) rfl ⟨by decide, by decide, by decide⟩ rfl ?_
          refine ex_pu (ls' := [vR 165, vI v1]) (st' := [vR 165]) (dg dc254 39 rfl) rfl rfl ?_
          refine ex_getO (dg dc254 40 rfl) rfl (LOC.st (Nat.le_of_ble_eq_true rfl) rfl) rfl ?_
          show EX Z _ 254 _ [vR 165, vI v1] [vR 166] _ _
          refine ex_pu (ls' := [vR 165, vI v1]) (st' := [vI 8, vR 166]) (dg dc254 41 rfl) rfl rfl ?_
          refine ex_iald (dg dc254 42 rfl) (LOC.st (Nat.le_of_ble_eq_true rfl) rfl) rfl hf (fun _ hf => ?_)
          exact ex_ire (dg dc254 43 rfl) rfl hf
        ·
          refine ex_bif hf (fun hc_18 hf => ?_) (fun hc_18 hf => ?_)
          · refine ex_tsw (t := 104) (dg dc254 28 rfl) hc_18 (by decide +kernel) rfl ⟨by decide, by decide, by decide⟩ rfl ?_
            refine ex_pu (ls' := [vR 165, vI v1]) (st' := [vR 165]) (dg dc254 44 rfl) rfl rfl ?_
            refine ex_pu (ls' := [vR 165, vI v1]) (st' := [vR 165, vR 165]) (dg dc254 45 rfl) rfl rfl ?_
            refine ex_cJ (vs := [vR 165]) (st' := [vR 165]) (F := (mo_now  M_13)) (Or.inr (Or.inl ⟨rfl, (dg dc254 46 rfl)⟩)) rfl rfl (rk1 (LOC.st (Nat.le_of_ble_eq_true rfl) rfl) rfl) rfl (fun _ r9 => mo_now_ok (Z := Z) (d := e9) (by omega)  r9) hf (fun z_21 M_20 he_19 hf => ?_)
            refine ex_pu (ls' := [vR 165, vI v1]) (st' := [vI 2, vJ z_21, vR 165]) (dg dc254 47 rfl) rfl rfl ?_
            refine ex_cI (vs := [vR 165, vJ z_21, vI 2]) (st' := []) (F := (mo_thingsIn z_21 2 M_20)) (Or.inr (Or.inl ⟨rfl, (dg dc254 48 rfl)⟩)) rfl rfl (rk1 (LOC.st (Nat.le_of_ble_eq_true rfl) rfl) rfl) rfl (fun _ r9 => mo_thingsIn_ok (Z := Z) (d := e9) (by omega)  r9) hf (fun z_24 M_23 he_22 hf => ?_)
            exact ex_ire (dg dc254 49 rfl) rfl hf
          · refine ex_tsd (t := 114) (dg dc254 28 rfl) (sw_out (lo := 0) (hi := 3) (fun j h1 h2 => by have hj : j = 0 ∨ j = 1 ∨ j = 2 ∨ j = 3 := (by omega); rcases hj with rfl | rfl | rfl | rfl <;> first | exact ⟨hc_15, by decide +kernel⟩ | exact ⟨hc_16, by decide +kernel⟩ | exact ⟨hc_17, by decide +kernel⟩ | exact ⟨hc_18, by decide +kernel⟩)) rfl ?_
            refine ex_pu (ls' := [vR 165, vI v1]) (st' := [vR 165]) (dg dc254 50 rfl) rfl rfl ?_
            refine ex_pu (ls' := [vR 165, vI v1]) (st' := [vR 165, vR 165]) (dg dc254 51 rfl) rfl rfl ?_
            refine ex_pu (ls' := [vR 165, vI v1]) (st' := [vR 165, vR 165, vR 165]) (dg dc254 52 rfl) rfl rfl ?_
            refine ex_cJ (vs := [vR 165]) (st' := [vR 165, vR 165]) (F := (mo_now  M_13)) (Or.inr (Or.inl ⟨rfl, (dg dc254 53 rfl)⟩)) rfl rfl (rk1 (LOC.st (Nat.le_of_ble_eq_true rfl) rfl) rfl) rfl (fun _ r9 => mo_now_ok (Z := Z) (d := e9) (by omega)  r9) hf (fun z_27 M_26 he_25 hf => ?_)
            refine ex_pu (ls' := [vR 165, vI v1]) (st' := [vI 2, vJ z_27, vR 165, vR 165]) (dg dc254 54 rfl) rfl rfl ?_
            refine ex_cI (vs := [vR 165, vJ z_27, vI 2]) (st' := [vR 165]) (F := (mo_thingsIn z_27 2 M_26)) (Or.inr (Or.inl ⟨rfl, (dg dc254 55 rfl)⟩)) rfl rfl (rk1 (LOC.st (Nat.le_of_ble_eq_true rfl) rfl) rfl) rfl (fun _ r9 => mo_thingsIn_ok (Z := Z) (d := e9) (by omega)  r9) hf (fun z_30 M_29 he_28 hf => ?_)
            refine ex_cI (vs := [vR 165, vI z_30]) (st' := []) (F := (mo_worthOf z_30 M_29)) (Or.inr (Or.inl ⟨rfl, (dg dc254 56 rfl)⟩)) rfl rfl (rk1 (LOC.st (Nat.le_of_ble_eq_true rfl) rfl) rfl) rfl (fun _ r9 => mo_worthOf_ok (Z := Z) (d := e9) (by omega)  r9) hf (fun z_33 M_32 he_31 hf => ?_)
            exact ex_ire (dg dc254 57 rfl) rfl hf
  · refine ex_pu (ls' := [vR 165, vI v1]) (st' := [vI 0]) (dg dc254 25 rfl) rfl rfl ?_
    exact ex_ire (dg dc254 26 rfl) rfl hf
def mo_girl_J20   (v1 s0 : Int) (M : MM) : OR :=
  (bI (mo_throwsIf s0 1 M) fun z_8 M_7 => (bif cmpB .ne z_8 0 then some (rI 0, M_7) else (bI (mo_places  M_7) fun z_11 M_10 => (bif cmpB .ne z_11 0 then (mo_girl_J40   v1 0 M_10) else (mo_girl_J40   v1 1 M_10)))))
set_option maxRecDepth 4000 in
theorem mo_girl_J20_ok {Z : Nat × (Nat → Int)} {d : Nat} (hd : 3 ≤ d)   {res : AR × MM}  : ∀ (v1 s0 : Int) (M : MM), mo_girl_J20   v1 s0 M = some res → EX Z d 254 20 [vR 165, vI v1] [vI s0, vR 165] M res := by
  obtain ⟨e9, rfl⟩ : ∃ e9, d = e9 + 1 := ⟨d - 1, by omega⟩
  intro v1 s0 M hf
  unfold mo_girl_J20 at hf
  refine ex_pu (ls' := [vR 165, vI v1]) (st' := [vI 1, vI s0, vR 165]) (dg dc254 12 rfl) rfl rfl ?_
  refine ex_cI (vs := [vR 165, vI s0, vI 1]) (st' := []) (F := (mo_throwsIf s0 1 M)) (Or.inr (Or.inl ⟨rfl, (dg dc254 13 rfl)⟩)) rfl rfl (rk1 (LOC.st (Nat.le_of_ble_eq_true rfl) rfl) rfl) rfl (fun _ r9 => mo_throwsIf_ok (Z := Z) (d := e9) (by omega)  r9) hf (fun z_8 M_7 he_6 hf => ?_)
  refine ex_if (t := 47) (dg dc254 14 rfl) rfl hf (fun _ hf => ?_) (fun _ hf => ?_)
  · refine ex_pu (ls' := [vR 165, vI v1]) (st' := [vI 0]) (dg dc254 25 rfl) rfl rfl ?_
    exact ex_ire (dg dc254 26 rfl) rfl hf
  · refine ex_pu (ls' := [vR 165, vI v1]) (st' := [vR 165]) (dg dc254 15 rfl) rfl rfl ?_
    refine ex_pu (ls' := [vR 165, vI v1]) (st' := [vR 165, vR 165]) (dg dc254 16 rfl) rfl rfl ?_
    refine ex_cI (vs := [vR 165]) (st' := [vR 165]) (F := (mo_places  M_7)) (Or.inr (Or.inl ⟨rfl, (dg dc254 17 rfl)⟩)) rfl rfl (rk1 (LOC.st (Nat.le_of_ble_eq_true rfl) rfl) rfl) rfl (fun _ r9 => mo_places_ok (Z := Z) (d := e9) (by omega)  r9) hf (fun z_11 M_10 he_9 hf => ?_)
    refine ex_if (t := 39) (dg dc254 18 rfl) rfl hf (fun _ hf => ?_) (fun _ hf => ?_)
    · refine ex_pu (ls' := [vR 165, vI v1]) (st' := [vI 0, vR 165]) (dg dc254 21 rfl) rfl rfl ?_
      exact mo_girl_J40_ok hd   v1 0 M_10 hf
    · refine ex_pu (ls' := [vR 165, vI v1]) (st' := [vI 1, vR 165]) (dg dc254 19 rfl) rfl rfl ?_
      refine ex_goto (t := 40) (dg dc254 20 rfl) rfl rfl ?_
      exact mo_girl_J40_ok hd   v1 1 M_10 hf
def mo_girl (v1 : Int) (M : MM) : OR :=
  (sM (mU M 165 0 0) fun M_1 => (bI (mo_in v1 0 4 M_1) fun z_5 M_4 => (bif cmpB .ne z_5 0 then (mo_girl_J20   v1 0 M_4) else (mo_girl_J20   v1 1 M_4))))
set_option maxRecDepth 4000 in
theorem mo_girl_ok {Z : Nat × (Nat → Int)} {d : Nat} (hd : 3 ≤ d) {M : MM}  {v1 : Int} {res : AR × MM} (hf : mo_girl v1 M = some res) : EX Z d 254 0 (ent 254 [vR 165, vI v1]) [] M res := by
  obtain ⟨e9, rfl⟩ : ∃ e9, d = e9 + 1 := ⟨d - 1, by omega⟩
  unfold mo_girl at hf
  show EX Z _ 254 0 [vR 165, vI v1] [] M res
  refine ex_pu (ls' := [vR 165, vI v1]) (st' := [vR 165]) (dg dc254 0 rfl) rfl rfl ?_
  refine ex_pu (ls' := [vR 165, vI v1]) (st' := [vI 0, vR 165]) (dg dc254 1 rfl) rfl rfl ?_
  refine ex_putI (dg dc254 2 rfl) rfl (LOC.st (Nat.le_of_ble_eq_true rfl) rfl) rfl rfl rfl ?_
  refine ex_gen hf (fun M_1 hM_2 hf => ?_)
  refine ex_pu (ls' := [vR 165, vI v1]) (st' := [vR 165]) (dg dc254 3 rfl) rfl rfl ?_
  refine ex_pu (ls' := [vR 165, vI v1]) (st' := [vI v1, vR 165]) (dg dc254 4 rfl) rfl rfl ?_
  refine ex_pu (ls' := [vR 165, vI v1]) (st' := [vI 0, vI v1, vR 165]) (dg dc254 5 rfl) rfl rfl ?_
  refine ex_pu (ls' := [vR 165, vI v1]) (st' := [vI 4, vI 0, vI v1, vR 165]) (dg dc254 6 rfl) rfl rfl ?_
  refine ex_cI (vs := [vI v1, vI 0, vI 4]) (st' := [vR 165]) (F := (mo_in v1 0 4 M_1)) (Or.inl ⟨rfl, (dg dc254 7 rfl)⟩) rfl rfl (Or.inl rfl) rfl (fun _ r9 => mo_in_ok (Z := Z) (d := e9) (by omega)  r9) hf (fun z_5 M_4 he_3 hf => ?_)
  refine ex_if (t := 19) (dg dc254 8 rfl) rfl hf (fun _ hf => ?_) (fun _ hf => ?_)
  · refine ex_pu (ls' := [vR 165, vI v1]) (st' := [vI 0, vR 165]) (dg dc254 11 rfl) rfl rfl ?_
    exact mo_girl_J20_ok hd   v1 0 M_4 hf
  · refine ex_pu (ls' := [vR 165, vI v1]) (st' := [vI 1, vR 165]) (dg dc254 9 rfl) rfl rfl ?_
    refine ex_goto (t := 20) (dg dc254 10 rfl) rfl rfl ?_
    exact mo_girl_J20_ok hd   v1 1 M_4 hf
-- GlassHillModel.fits
def il256 : List (Nat × Instr × Nat) := [(0, .aload_n 0, 1), (1, .iconst 0, 1), (2, .putfield 3, 3), (5, .aload_n 0, 1), (6, .aload_n 0, 1), (7, .iload_n 1, 1), (8, .invokevirtual 399, 3), (11, .ifCond .ne 11, 3), (14, .aload_n 0, 1), (15, .iload_n 2, 1), (16, .invokevirtual 393, 3), (19, .ifCond .eq 7, 3), (22, .iconst 1, 1), (23, .goto 4, 3), (26, .iconst 0, 1), (27, .iconst 1, 1), (28, .invokevirtual 274, 3), (31, .ifCond .ne 24, 3), (34, .aload_n 0, 1), (35, .aload_n 0, 1), (36, .iload_n 2, 1), (37, .invokevirtual 159, 3), (40, .ifCond .ne 7, 3), (43, .iconst 1, 1), (44, .goto 4, 3), (47, .iconst 0, 1), (48, .iconst 2, 1), (49, .invokevirtual 274, 3), (52, .ifCond .eq 5, 3), (55, .iconst 0, 1), (56, .ireturn, 1), (57, .aload_n 0, 1), (58, .iload_n 1, 1), (59, .iload_n 2, 1), (60, .invokevirtual 387, 3), (63, .ireturn, 1)]
theorem dc256 : dcs (mC 256) il256 := dc_of (by decide +kernel)
def mo_fits_J27   (v1 v2 s0 : Int) (M : MM) : OR :=
  (bI (mo_throwsIf s0 1 M) fun z_8 M_7 => (bif cmpB .ne z_8 0 then some (rI 0, M_7) else (bI (mo_isKeeper v2 M_7) fun z_11 M_10 => (bif cmpB .ne z_11 0 then (bI (mo_throwsIf 0 2 M_10) fun z_14 M_13 => (bif cmpB .eq z_14 0 then (bI (mo_fitsKeeper v1 v2 M_13) fun z_17 M_16 => (bif zo z_17 then some (rI z_17, M_16) else none)) else some (rI 0, M_13))) else (bI (mo_throwsIf 1 2 M_10) fun z_20 M_19 => (bif cmpB .eq z_20 0 then (bI (mo_fitsKeeper v1 v2 M_19) fun z_23 M_22 => (bif zo z_23 then some (rI z_23, M_22) else none)) else some (rI 0, M_19)))))))
set_option maxRecDepth 4000 in
theorem mo_fits_J27_ok {Z : Nat × (Nat → Int)} {d : Nat} (hd : 2 ≤ d)   {res : AR × MM}  : ∀ (v1 v2 s0 : Int) (M : MM), mo_fits_J27   v1 v2 s0 M = some res → EX Z d 256 27 [vR 165, vI v1, vI v2] [vI s0, vR 165] M res := by
  obtain ⟨e9, rfl⟩ : ∃ e9, d = e9 + 1 := ⟨d - 1, by omega⟩
  intro v1 v2 s0 M hf
  unfold mo_fits_J27 at hf
  refine ex_pu (ls' := [vR 165, vI v1, vI v2]) (st' := [vI 1, vI s0, vR 165]) (dg dc256 15 rfl) rfl rfl ?_
  refine ex_cI (vs := [vR 165, vI s0, vI 1]) (st' := []) (F := (mo_throwsIf s0 1 M)) (Or.inr (Or.inl ⟨rfl, (dg dc256 16 rfl)⟩)) rfl rfl (rk1 (LOC.st (Nat.le_of_ble_eq_true rfl) rfl) rfl) rfl (fun _ r9 => mo_throwsIf_ok (Z := Z) (d := e9) (by omega)  r9) hf (fun z_8 M_7 he_6 hf => ?_)
  refine ex_if (t := 55) (dg dc256 17 rfl) rfl hf (fun _ hf => ?_) (fun _ hf => ?_)
  · refine ex_pu (ls' := [vR 165, vI v1, vI v2]) (st' := [vI 0]) (dg dc256 29 rfl) rfl rfl ?_
    exact ex_ire (dg dc256 30 rfl) rfl hf
  · refine ex_pu (ls' := [vR 165, vI v1, vI v2]) (st' := [vR 165]) (dg dc256 18 rfl) rfl rfl ?_
    refine ex_pu (ls' := [vR 165, vI v1, vI v2]) (st' := [vR 165, vR 165]) (dg dc256 19 rfl) rfl rfl ?_
    refine ex_pu (ls' := [vR 165, vI v1, vI v2]) (st' := [vI v2, vR 165, vR 165]) (dg dc256 20 rfl) rfl rfl ?_
    refine ex_cI (vs := [vR 165, vI v2]) (st' := [vR 165]) (F := (mo_isKeeper v2 M_7)) (Or.inr (Or.inl ⟨rfl, (dg dc256 21 rfl)⟩)) rfl rfl (rk1 (LOC.st (Nat.le_of_ble_eq_true rfl) rfl) rfl) rfl (fun _ r9 => mo_isKeeper_ok (Z := Z) (d := e9) (by omega)  r9) hf (fun z_11 M_10 he_9 hf => ?_)
    refine ex_if (t := 47) (dg dc256 22 rfl) rfl hf (fun _ hf => ?_) (fun _ hf => ?_)
    · refine ex_pu (ls' := [vR 165, vI v1, vI v2]) (st' := [vI 0, vR 165]) (dg dc256 25 rfl) rfl rfl ?_
      refine ex_pu (ls' := [vR 165, vI v1, vI v2]) (st' := [vI 2, vI 0, vR 165]) (dg dc256 26 rfl) rfl rfl ?_
      refine ex_cI (vs := [vR 165, vI 0, vI 2]) (st' := []) (F := (mo_throwsIf 0 2 M_10)) (Or.inr (Or.inl ⟨rfl, (dg dc256 27 rfl)⟩)) rfl rfl (rk1 (LOC.st (Nat.le_of_ble_eq_true rfl) rfl) rfl) rfl (fun _ r9 => mo_throwsIf_ok (Z := Z) (d := e9) (by omega)  r9) hf (fun z_14 M_13 he_12 hf => ?_)
      refine ex_if (t := 57) (dg dc256 28 rfl) rfl hf (fun _ hf => ?_) (fun _ hf => ?_)
      · refine ex_pu (ls' := [vR 165, vI v1, vI v2]) (st' := [vR 165]) (dg dc256 31 rfl) rfl rfl ?_
        refine ex_pu (ls' := [vR 165, vI v1, vI v2]) (st' := [vI v1, vR 165]) (dg dc256 32 rfl) rfl rfl ?_
        refine ex_pu (ls' := [vR 165, vI v1, vI v2]) (st' := [vI v2, vI v1, vR 165]) (dg dc256 33 rfl) rfl rfl ?_
        refine ex_cI (vs := [vR 165, vI v1, vI v2]) (st' := []) (F := (mo_fitsKeeper v1 v2 M_13)) (Or.inr (Or.inl ⟨rfl, (dg dc256 34 rfl)⟩)) rfl rfl (rk1 (LOC.st (Nat.le_of_ble_eq_true rfl) rfl) rfl) rfl (fun _ r9 => mo_fitsKeeper_ok (Z := Z) (d := e9) (by omega)  r9) hf (fun z_17 M_16 he_15 hf => ?_)
        exact ex_irb (dg dc256 35 rfl) rfl hf
      · refine ex_pu (ls' := [vR 165, vI v1, vI v2]) (st' := [vI 0]) (dg dc256 29 rfl) rfl rfl ?_
        exact ex_ire (dg dc256 30 rfl) rfl hf
    · refine ex_pu (ls' := [vR 165, vI v1, vI v2]) (st' := [vI 1, vR 165]) (dg dc256 23 rfl) rfl rfl ?_
      refine ex_goto (t := 48) (dg dc256 24 rfl) rfl rfl ?_
      refine ex_pu (ls' := [vR 165, vI v1, vI v2]) (st' := [vI 2, vI 1, vR 165]) (dg dc256 26 rfl) rfl rfl ?_
      refine ex_cI (vs := [vR 165, vI 1, vI 2]) (st' := []) (F := (mo_throwsIf 1 2 M_10)) (Or.inr (Or.inl ⟨rfl, (dg dc256 27 rfl)⟩)) rfl rfl (rk1 (LOC.st (Nat.le_of_ble_eq_true rfl) rfl) rfl) rfl (fun _ r9 => mo_throwsIf_ok (Z := Z) (d := e9) (by omega)  r9) hf (fun z_20 M_19 he_18 hf => ?_)
      refine ex_if (t := 57) (dg dc256 28 rfl) rfl hf (fun _ hf => ?_) (fun _ hf => ?_)
      · refine ex_pu (ls' := [vR 165, vI v1, vI v2]) (st' := [vR 165]) (dg dc256 31 rfl) rfl rfl ?_
        refine ex_pu (ls' := [vR 165, vI v1, vI v2]) (st' := [vI v1, vR 165]) (dg dc256 32 rfl) rfl rfl ?_
        refine ex_pu (ls' := [vR 165, vI v1, vI v2]) (st' := [vI v2, vI v1, vR 165]) (dg dc256 33 rfl) rfl rfl ?_
        refine ex_cI (vs := [vR 165, vI v1, vI v2]) (st' := []) (F := (mo_fitsKeeper v1 v2 M_19)) (Or.inr (Or.inl ⟨rfl, (dg dc256 34 rfl)⟩)) rfl rfl (rk1 (LOC.st (Nat.le_of_ble_eq_true rfl) rfl) rfl) rfl (fun _ r9 => mo_fitsKeeper_ok (Z := Z) (d := e9) (by omega)  r9) hf (fun z_23 M_22 he_21 hf => ?_)
        exact ex_irb (dg dc256 35 rfl) rfl hf
      · refine ex_pu (ls' := [vR 165, vI v1, vI v2]) (st' := [vI 0]) (dg dc256 29 rfl) rfl rfl ?_
        exact ex_ire (dg dc256 30 rfl) rfl hf
def mo_fits_J22   (v1 v2 : Int) (M : MM) : OR :=
  (mo_fits_J27   v1 v2 1 M)
set_option maxRecDepth 4000 in
theorem mo_fits_J22_ok {Z : Nat × (Nat → Int)} {d : Nat} (hd : 2 ≤ d)   {res : AR × MM}  : ∀ (v1 v2 : Int) (M : MM), mo_fits_J22   v1 v2 M = some res → EX Z d 256 22 [vR 165, vI v1, vI v2] [vR 165] M res := by
  obtain ⟨e9, rfl⟩ : ∃ e9, d = e9 + 1 := ⟨d - 1, by omega⟩
  intro v1 v2 M hf
  unfold mo_fits_J22 at hf
  refine ex_pu (ls' := [vR 165, vI v1, vI v2]) (st' := [vI 1, vR 165]) (dg dc256 12 rfl) rfl rfl ?_
  refine ex_goto (t := 27) (dg dc256 13 rfl) rfl rfl ?_
  exact mo_fits_J27_ok hd   v1 v2 1 M hf
def mo_fits (v1 : Int) (v2 : Int) (M : MM) : OR :=
  (sM (mU M 165 0 0) fun M_1 => (bI (mo_noThing v1 M_1) fun z_5 M_4 => (bif cmpB .ne z_5 0 then (mo_fits_J22   v1 v2 M_4) else (bI (mo_noPlace v2 M_4) fun z_26 M_25 => (bif cmpB .eq z_26 0 then (mo_fits_J27   v1 v2 0 M_25) else (mo_fits_J22   v1 v2 M_25))))))
set_option maxRecDepth 4000 in
theorem mo_fits_ok {Z : Nat × (Nat → Int)} {d : Nat} (hd : 2 ≤ d) {M : MM}  {v1 v2 : Int} {res : AR × MM} (hf : mo_fits v1 v2 M = some res) : EX Z d 256 0 (ent 256 [vR 165, vI v1, vI v2]) [] M res := by
  obtain ⟨e9, rfl⟩ : ∃ e9, d = e9 + 1 := ⟨d - 1, by omega⟩
  unfold mo_fits at hf
  show EX Z _ 256 0 [vR 165, vI v1, vI v2] [] M res
  refine ex_pu (ls' := [vR 165, vI v1, vI v2]) (st' := [vR 165]) (dg dc256 0 rfl) rfl rfl ?_
  refine ex_pu (ls' := [vR 165, vI v1, vI v2]) (st' := [vI 0, vR 165]) (dg dc256 1 rfl) rfl rfl ?_
  refine ex_putI (dg dc256 2 rfl) rfl (LOC.st (Nat.le_of_ble_eq_true rfl) rfl) rfl rfl rfl ?_
  refine ex_gen hf (fun M_1 hM_2 hf => ?_)
  refine ex_pu (ls' := [vR 165, vI v1, vI v2]) (st' := [vR 165]) (dg dc256 3 rfl) rfl rfl ?_
  refine ex_pu (ls' := [vR 165, vI v1, vI v2]) (st' := [vR 165, vR 165]) (dg dc256 4 rfl) rfl rfl ?_
  refine ex_pu (ls' := [vR 165, vI v1, vI v2]) (st' := [vI v1, vR 165, vR 165]) (dg dc256 5 rfl) rfl rfl ?_
  refine ex_cI (vs := [vR 165, vI v1]) (st' := [vR 165]) (F := (mo_noThing v1 M_1)) (Or.inr (Or.inl ⟨rfl, (dg dc256 6 rfl)⟩)) rfl rfl (rk1 (LOC.st (Nat.le_of_ble_eq_true rfl) rfl) rfl) rfl (fun _ r9 => mo_noThing_ok (Z := Z) (d := e9) (by omega)  r9) hf (fun z_5 M_4 he_3 hf => ?_)
  refine ex_if (t := 22) (dg dc256 7 rfl) rfl hf (fun _ hf => ?_) (fun _ hf => ?_)
  · exact mo_fits_J22_ok hd   v1 v2 M_4 hf
  · refine ex_pu (ls' := [vR 165, vI v1, vI v2]) (st' := [vR 165, vR 165]) (dg dc256 8 rfl) rfl rfl ?_
    refine ex_pu (ls' := [vR 165, vI v1, vI v2]) (st' := [vI v2, vR 165, vR 165]) (dg dc256 9 rfl) rfl rfl ?_
    refine ex_cI (vs := [vR 165, vI v2]) (st' := [vR 165]) (F := (mo_noPlace v2 M_4)) (Or.inr (Or.inl ⟨rfl, (dg dc256 10 rfl)⟩)) rfl rfl (rk1 (LOC.st (Nat.le_of_ble_eq_true rfl) rfl) rfl) rfl (fun _ r9 => mo_noPlace_ok (Z := Z) (d := e9) (by omega)  r9) hf (fun z_26 M_25 he_24 hf => ?_)
    refine ex_if (t := 26) (dg dc256 11 rfl) rfl hf (fun _ hf => ?_) (fun _ hf => ?_)
    · refine ex_pu (ls' := [vR 165, vI v1, vI v2]) (st' := [vI 0, vR 165]) (dg dc256 14 rfl) rfl rfl ?_
      exact mo_fits_J27_ok hd   v1 v2 0 M_25 hf
    · exact mo_fits_J22_ok hd   v1 v2 M_25 hf
-- GlassHillModel.delay
def il258 : List (Nat × Instr × Nat) := [(0, .aload_n 0, 1), (1, .iconst 0, 1), (2, .putfield 3, 3), (5, .aload_n 0, 1), (6, .iload_n 1, 1), (7, .iconst 1, 1), (8, .bipush 48, 2), (10, .invokestatic 80, 3), (13, .ifCond .ne 7, 3), (16, .iconst 1, 1), (17, .goto 4, 3), (20, .iconst 0, 1), (21, .iconst 1, 1), (22, .invokevirtual 274, 3), (25, .ifCond .ne 36, 3), (28, .aload_n 0, 1), (29, .aload_n 0, 1), (30, .invokevirtual 76, 3), (33, .ifCond .eq 16, 3), (36, .aload_n 0, 1), (37, .aload_n 0, 1), (38, .invokevirtual 411, 3), (41, .invokevirtual 418, 3), (44, .lconst 0, 1), (45, .lcmp, 1), (46, .ifCond .ge 7, 3), (49, .iconst 1, 1), (50, .goto 4, 3), (53, .iconst 0, 1), (54, .iconst 2, 1), (55, .invokevirtual 274, 3), (58, .ifCond .eq 5, 3), (61, .iconst 0, 1), (62, .ireturn, 1), (63, .aload_n 0, 1), (64, .invokevirtual 415, 3), (67, .iconst 0, 1), (68, .istore_n 2, 1), (69, .iload_n 2, 1), (70, .iload_n 1, 1), (71, .if_icmp .ge 33, 3), (74, .aload_n 0, 1), (75, .aload_n 0, 1), (76, .invokevirtual 411, 3), (79, .invokevirtual 418, 3), (82, .lconst 0, 1), (83, .lcmp, 1), (84, .ifCond .lt 20, 3), (87, .aload_n 0, 1), (88, .getfield 13, 3), (91, .bipush 6, 2), (93, .dup2, 1), (94, .iaload, 1), (95, .iconst 1, 1), (96, .iadd, 1), (97, .iastore, 1), (98, .iinc 2 1, 3), (101, .goto (-32), 3), (104, .iload_n 2, 1), (105, .ireturn, 1)]
theorem dc258 : dcs (mC 258) il258 := dc_of (by decide +kernel)
def mo_delay_L69  (v1 : Int) (K1 : Int → MM → OR) : Nat → Int → MM → OR
  | 0, _, _ => none
  | n + 1, v2, M => (bif cmpB .ge v2 v1 then (K1 v2 M) else (bJ (mo_now  M) fun z_20 M_19 => (bJ (mo_waits z_20 M_19) fun z_23 M_22 => (bif cmpB .lt (lCmp z_23 0) 0 then (K1 v2 M_22) else (bif inB 6 1964 then (bif inB 6 1964 then (sM (mU M_22 166 6 ((M_22 166 6) + 1)) fun M_24 => (mo_delay_L69 v1 K1 n (v2 + 1) M_24)) else none) else none)))))
set_option maxRecDepth 4000 in
theorem mo_delay_L69_ok {Z : Nat × (Nat → Int)} {d : Nat} (hd : 3 ≤ d)  {v1 : Int} {K1 : Int → MM → OR} {res : AR × MM} (k1 : ∀ (x2 : Int) (M : MM) (j0 j1 : AV), K1 x2 M = some res → EX Z d 258 104 [j0, j1, vI x2] [] M res) : ∀ (n : Nat) (v2 : Int) (M : MM), mo_delay_L69 v1 K1 n v2 M = some res → EX Z d 258 69 [vR 165, vI v1, vI v2] [] M res := by
  obtain ⟨e9, rfl⟩ : ∃ e9, d = e9 + 1 := ⟨d - 1, by omega⟩
  intro n
  induction n with
  | zero =>
    intro v2 M hf
    unfold mo_delay_L69 at hf
    cases hf
  | succ n ih =>
    intro v2 M hf
    unfold mo_delay_L69 at hf
    refine ex_pu (ls' := [vR 165, vI v1, vI v2]) (st' := [vI v2]) (dg dc258 38 rfl) rfl rfl ?_
    refine ex_pu (ls' := [vR 165, vI v1, vI v2]) (st' := [vI v1, vI v2]) (dg dc258 39 rfl) rfl rfl ?_
    refine ex_icmp (t := 104) (dg dc258 40 rfl) rfl hf (fun _ hf => ?_) (fun _ hf => ?_)
    · exact k1 v2 M _ _ hf
    · refine ex_pu (ls' := [vR 165, vI v1, vI v2]) (st' := [vR 165]) (dg dc258 41 rfl) rfl rfl ?_
      refine ex_pu (ls' := [vR 165, vI v1, vI v2]) (st' := [vR 165, vR 165]) (dg dc258 42 rfl) rfl rfl ?_
      refine ex_cJ (vs := [vR 165]) (st' := [vR 165]) (F := (mo_now  M)) (Or.inr (Or.inl ⟨rfl, (dg dc258 43 rfl)⟩)) rfl rfl (rk1 (LOC.st (Nat.le_of_ble_eq_true rfl) rfl) rfl) rfl (fun _ r9 => mo_now_ok (Z := Z) (d := e9) (by omega)  r9) hf (fun z_20 M_19 he_18 hf => ?_)
      refine ex_cJ (vs := [vR 165, vJ z_20]) (st' := []) (F := (mo_waits z_20 M_19)) (Or.inr (Or.inl ⟨rfl, (dg dc258 44 rfl)⟩)) rfl rfl (rk1 (LOC.st (Nat.le_of_ble_eq_true rfl) rfl) rfl) rfl (fun _ r9 => mo_waits_ok (Z := Z) (d := e9) (by omega)  r9) hf (fun z_23 M_22 he_21 hf => ?_)
      refine ex_pu (ls' := [vR 165, vI v1, vI v2]) (st' := [vJ 0, vJ z_23]) (dg dc258 45 rfl) rfl rfl ?_
      refine ex_pu (ls' := [vR 165, vI v1, vI v2]) (st' := [vI (lCmp z_23 0)]) (dg dc258 46 rfl) rfl rfl ?_
      refine ex_if (t := 104) (dg dc258 47 rfl) rfl hf (fun _ hf => ?_) (fun _ hf => ?_)
      · exact k1 v2 M_22 _ _ hf
      · refine ex_pu (ls' := [vR 165, vI v1, vI v2]) (st' := [vR 165]) (dg dc258 48 rfl) rfl rfl ?_
        refine ex_getO (dg dc258 49 rfl) rfl (LOC.st (Nat.le_of_ble_eq_true rfl) rfl) rfl ?_
        show EX Z _ 258 _ [vR 165, vI v1, vI v2] [vR 166] _ _
        refine ex_pu (ls' := [vR 165, vI v1, vI v2]) (st' := [vI 6, vR 166]) (dg dc258 50 rfl) rfl rfl ?_
        refine ex_pu (ls' := [vR 165, vI v1, vI v2]) (st' := [vI 6, vR 166, vI 6, vR 166]) (dg dc258 51 rfl) rfl rfl ?_
        refine ex_iald (dg dc258 52 rfl) (LOC.st (Nat.le_of_ble_eq_true rfl) rfl) rfl hf (fun _ hf => ?_)
        refine ex_pu (ls' := [vR 165, vI v1, vI v2]) (st' := [vI 1, vI (M_22 166 6), vI 6, vR 166]) (dg dc258 53 rfl) rfl rfl ?_
        refine ex_pu (ls' := [vR 165, vI v1, vI v2]) (st' := [vI ((M_22 166 6) + 1), vI 6, vR 166]) (dg dc258 54 rfl) rfl rfl ?_
        refine ex_iast (dg dc258 55 rfl) (LOC.st (Nat.le_of_ble_eq_true rfl) rfl) rfl rfl hf (fun _ hf => ?_)
        refine ex_gen hf (fun M_24 hM_25 hf => ?_)
        refine ex_pu (ls' := [vR 165, vI v1, vI (v2 + 1)]) (st' := []) (dg dc258 56 rfl) rfl rfl ?_
        refine ex_goto (t := 69) (dg dc258 57 rfl) rfl rfl ?_
        exact ih (v2 + 1) M_24 hf
def mo_delay_J54   (v1 s0 : Int) (M : MM) : OR :=
  (bI (mo_throwsIf s0 2 M) fun z_14 M_13 => (bif cmpB .eq z_14 0 then (bV (mo_remembers  M_13) fun M_16 => (mo_delay_L69 v1 (fun v2_26 M_27 => some (rI v2_26, M_27)) FU 0 M_16)) else some (rI 0, M_13)))
set_option maxRecDepth 4000 in
theorem mo_delay_J54_ok {Z : Nat × (Nat → Int)} {d : Nat} (hd : 3 ≤ d)   {res : AR × MM}  : ∀ (v1 s0 : Int) (M : MM) (j2 : AV), mo_delay_J54   v1 s0 M = some res → EX Z d 258 54 [vR 165, vI v1, j2] [vI s0, vR 165] M res := by
  obtain ⟨e9, rfl⟩ : ∃ e9, d = e9 + 1 := ⟨d - 1, by omega⟩
  intro v1 s0 M j2 hf
  unfold mo_delay_J54 at hf
  refine ex_pu (ls' := [vR 165, vI v1, j2]) (st' := [vI 2, vI s0, vR 165]) (dg dc258 29 rfl) rfl rfl ?_
  refine ex_cI (vs := [vR 165, vI s0, vI 2]) (st' := []) (F := (mo_throwsIf s0 2 M)) (Or.inr (Or.inl ⟨rfl, (dg dc258 30 rfl)⟩)) rfl rfl (rk1 (LOC.st (Nat.le_of_ble_eq_true rfl) rfl) rfl) rfl (fun _ r9 => mo_throwsIf_ok (Z := Z) (d := e9) (by omega)  r9) hf (fun z_14 M_13 he_12 hf => ?_)
  refine ex_if (t := 63) (dg dc258 31 rfl) rfl hf (fun _ hf => ?_) (fun _ hf => ?_)
  · refine ex_pu (ls' := [vR 165, vI v1, j2]) (st' := [vR 165]) (dg dc258 34 rfl) rfl rfl ?_
    refine ex_cV (vs := [vR 165]) (st' := []) (F := (mo_remembers  M_13)) (Or.inr (Or.inl ⟨rfl, (dg dc258 35 rfl)⟩)) rfl rfl (rk1 (LOC.st (Nat.le_of_ble_eq_true rfl) rfl) rfl) rfl (fun _ r9 => mo_remembers_ok (Z := Z) (d := e9) (by omega)  r9) hf (fun M_16 he_15 hf => ?_)
    refine ex_pu (ls' := [vR 165, vI v1, j2]) (st' := [vI 0]) (dg dc258 36 rfl) rfl rfl ?_
    refine ex_pu (ls' := [vR 165, vI v1, vI 0]) (st' := []) (dg dc258 37 rfl) rfl rfl ?_
    refine mo_delay_L69_ok hd  ?_ FU 0 M_16 hf
    · intro v2_26 M_27 j0_28 j1_29 hf
      refine ex_pu (ls' := [j0_28, j1_29, vI v2_26]) (st' := [vI v2_26]) (dg dc258 58 rfl) rfl rfl ?_
      exact ex_ire (dg dc258 59 rfl) rfl hf
  · refine ex_pu (ls' := [vR 165, vI v1, j2]) (st' := [vI 0]) (dg dc258 32 rfl) rfl rfl ?_
    exact ex_ire (dg dc258 33 rfl) rfl hf
def mo_delay_J49   (v1 : Int) (M : MM) : OR :=
  (mo_delay_J54   v1 1 M)
set_option maxRecDepth 4000 in
theorem mo_delay_J49_ok {Z : Nat × (Nat → Int)} {d : Nat} (hd : 3 ≤ d)   {res : AR × MM}  : ∀ (v1 : Int) (M : MM) (j2 : AV), mo_delay_J49   v1 M = some res → EX Z d 258 49 [vR 165, vI v1, j2] [vR 165] M res := by
  obtain ⟨e9, rfl⟩ : ∃ e9, d = e9 + 1 := ⟨d - 1, by omega⟩
  intro v1 M j2 hf
  unfold mo_delay_J49 at hf
  refine ex_pu (ls' := [vR 165, vI v1, j2]) (st' := [vI 1, vR 165]) (dg dc258 26 rfl) rfl rfl ?_
  refine ex_goto (t := 54) (dg dc258 27 rfl) rfl rfl ?_
  exact mo_delay_J54_ok hd   v1 1 M _ hf
def mo_delay_J21   (v1 s0 : Int) (M : MM) : OR :=
  (bI (mo_throwsIf s0 1 M) fun z_8 M_7 => (bif cmpB .ne z_8 0 then some (rI 0, M_7) else (bI (mo_places  M_7) fun z_11 M_10 => (bif cmpB .eq z_11 0 then (mo_delay_J49   v1 M_10) else (bJ (mo_now  M_10) fun z_32 M_31 => (bJ (mo_waits z_32 M_31) fun z_35 M_34 => (bif cmpB .ge (lCmp z_35 0) 0 then (mo_delay_J54   v1 0 M_34) else (mo_delay_J49   v1 M_34))))))))
set_option maxRecDepth 4000 in
theorem mo_delay_J21_ok {Z : Nat × (Nat → Int)} {d : Nat} (hd : 3 ≤ d)   {res : AR × MM}  : ∀ (v1 s0 : Int) (M : MM) (j2 : AV), mo_delay_J21   v1 s0 M = some res → EX Z d 258 21 [vR 165, vI v1, j2] [vI s0, vR 165] M res := by
  obtain ⟨e9, rfl⟩ : ∃ e9, d = e9 + 1 := ⟨d - 1, by omega⟩
  intro v1 s0 M j2 hf
  unfold mo_delay_J21 at hf
  refine ex_pu (ls' := [vR 165, vI v1, j2]) (st' := [vI 1, vI s0, vR 165]) (dg dc258 12 rfl) rfl rfl ?_
  refine ex_cI (vs := [vR 165, vI s0, vI 1]) (st' := []) (F := (mo_throwsIf s0 1 M)) (Or.inr (Or.inl ⟨rfl, (dg dc258 13 rfl)⟩)) rfl rfl (rk1 (LOC.st (Nat.le_of_ble_eq_true rfl) rfl) rfl) rfl (fun _ r9 => mo_throwsIf_ok (Z := Z) (d := e9) (by omega)  r9) hf (fun z_8 M_7 he_6 hf => ?_)
  refine ex_if (t := 61) (dg dc258 14 rfl) rfl hf (fun _ hf => ?_) (fun _ hf => ?_)
  · refine ex_pu (ls' := [vR 165, vI v1, j2]) (st' := [vI 0]) (dg dc258 32 rfl) rfl rfl ?_
    exact ex_ire (dg dc258 33 rfl) rfl hf
  · refine ex_pu (ls' := [vR 165, vI v1, j2]) (st' := [vR 165]) (dg dc258 15 rfl) rfl rfl ?_
    refine ex_pu (ls' := [vR 165, vI v1, j2]) (st' := [vR 165, vR 165]) (dg dc258 16 rfl) rfl rfl ?_
    refine ex_cI (vs := [vR 165]) (st' := [vR 165]) (F := (mo_places  M_7)) (Or.inr (Or.inl ⟨rfl, (dg dc258 17 rfl)⟩)) rfl rfl (rk1 (LOC.st (Nat.le_of_ble_eq_true rfl) rfl) rfl) rfl (fun _ r9 => mo_places_ok (Z := Z) (d := e9) (by omega)  r9) hf (fun z_11 M_10 he_9 hf => ?_)
    refine ex_if (t := 49) (dg dc258 18 rfl) rfl hf (fun _ hf => ?_) (fun _ hf => ?_)
    · exact mo_delay_J49_ok hd   v1 M_10 _ hf
    · refine ex_pu (ls' := [vR 165, vI v1, j2]) (st' := [vR 165, vR 165]) (dg dc258 19 rfl) rfl rfl ?_
      refine ex_pu (ls' := [vR 165, vI v1, j2]) (st' := [vR 165, vR 165, vR 165]) (dg dc258 20 rfl) rfl rfl ?_
      refine ex_cJ (vs := [vR 165]) (st' := [vR 165, vR 165]) (F := (mo_now  M_10)) (Or.inr (Or.inl ⟨rfl, (dg dc258 21 rfl)⟩)) rfl rfl (rk1 (LOC.st (Nat.le_of_ble_eq_true rfl) rfl) rfl) rfl (fun _ r9 => mo_now_ok (Z := Z) (d := e9) (by omega)  r9) hf (fun z_32 M_31 he_30 hf => ?_)
      refine ex_cJ (vs := [vR 165, vJ z_32]) (st' := [vR 165]) (F := (mo_waits z_32 M_31)) (Or.inr (Or.inl ⟨rfl, (dg dc258 22 rfl)⟩)) rfl rfl (rk1 (LOC.st (Nat.le_of_ble_eq_true rfl) rfl) rfl) rfl (fun _ r9 => mo_waits_ok (Z := Z) (d := e9) (by omega)  r9) hf (fun z_35 M_34 he_33 hf => ?_)
      refine ex_pu (ls' := [vR 165, vI v1, j2]) (st' := [vJ 0, vJ z_35, vR 165]) (dg dc258 23 rfl) rfl rfl ?_
      refine ex_pu (ls' := [vR 165, vI v1, j2]) (st' := [vI (lCmp z_35 0), vR 165]) (dg dc258 24 rfl) rfl rfl ?_
      refine ex_if (t := 53) (dg dc258 25 rfl) rfl hf (fun _ hf => ?_) (fun _ hf => ?_)
      · refine ex_pu (ls' := [vR 165, vI v1, j2]) (st' := [vI 0, vR 165]) (dg dc258 28 rfl) rfl rfl ?_
        exact mo_delay_J54_ok hd   v1 0 M_34 _ hf
      · exact mo_delay_J49_ok hd   v1 M_34 _ hf
def mo_delay (v1 : Int) (M : MM) : OR :=
  (sM (mU M 165 0 0) fun M_1 => (bI (mo_in v1 1 48 M_1) fun z_5 M_4 => (bif cmpB .ne z_5 0 then (mo_delay_J21   v1 0 M_4) else (mo_delay_J21   v1 1 M_4))))
set_option maxRecDepth 4000 in
theorem mo_delay_ok {Z : Nat × (Nat → Int)} {d : Nat} (hd : 3 ≤ d) {M : MM}  {v1 : Int} {res : AR × MM} (hf : mo_delay v1 M = some res) : EX Z d 258 0 (ent 258 [vR 165, vI v1]) [] M res := by
  obtain ⟨e9, rfl⟩ : ∃ e9, d = e9 + 1 := ⟨d - 1, by omega⟩
  unfold mo_delay at hf
  show EX Z _ 258 0 [vR 165, vI v1, vU] [] M res
  refine ex_pu (ls' := [vR 165, vI v1, vU]) (st' := [vR 165]) (dg dc258 0 rfl) rfl rfl ?_
  refine ex_pu (ls' := [vR 165, vI v1, vU]) (st' := [vI 0, vR 165]) (dg dc258 1 rfl) rfl rfl ?_
  refine ex_putI (dg dc258 2 rfl) rfl (LOC.st (Nat.le_of_ble_eq_true rfl) rfl) rfl rfl rfl ?_
  refine ex_gen hf (fun M_1 hM_2 hf => ?_)
  refine ex_pu (ls' := [vR 165, vI v1, vU]) (st' := [vR 165]) (dg dc258 3 rfl) rfl rfl ?_
  refine ex_pu (ls' := [vR 165, vI v1, vU]) (st' := [vI v1, vR 165]) (dg dc258 4 rfl) rfl rfl ?_
  refine ex_pu (ls' := [vR 165, vI v1, vU]) (st' := [vI 1, vI v1, vR 165]) (dg dc258 5 rfl) rfl rfl ?_
  refine ex_pu (ls' := [vR 165, vI v1, vU]) (st' := [vI 48, vI 1, vI v1, vR 165]) (dg dc258 6 rfl) rfl rfl ?_
  refine ex_cI (vs := [vI v1, vI 1, vI 48]) (st' := [vR 165]) (F := (mo_in v1 1 48 M_1)) (Or.inl ⟨rfl, (dg dc258 7 rfl)⟩) rfl rfl (Or.inl rfl) rfl (fun _ r9 => mo_in_ok (Z := Z) (d := e9) (by omega)  r9) hf (fun z_5 M_4 he_3 hf => ?_)
  refine ex_if (t := 20) (dg dc258 8 rfl) rfl hf (fun _ hf => ?_) (fun _ hf => ?_)
  · refine ex_pu (ls' := [vR 165, vI v1, vU]) (st' := [vI 0, vR 165]) (dg dc258 11 rfl) rfl rfl ?_
    exact mo_delay_J21_ok hd   v1 0 M_4 _ hf
  · refine ex_pu (ls' := [vR 165, vI v1, vU]) (st' := [vI 1, vR 165]) (dg dc258 9 rfl) rfl rfl ?_
    refine ex_goto (t := 21) (dg dc258 10 rfl) rfl rfl ?_
    exact mo_delay_J21_ok hd   v1 1 M_4 _ hf
-- GlassHillModel.isMet
def il263 : List (Nat × Instr × Nat) := [(0, .lload_n 1, 1), (1, .lconst 0, 1), (2, .lcmp, 1), (3, .ifCond .ge 5, 3), (6, .iconst 1, 1), (7, .ireturn, 1), (8, .lload_n 1, 1), (9, .lload_n 1, 1), (10, .bipush 27, 2), (12, .lshr, 1), (13, .lxor, 1), (14, .ldc2_w 435, 3), (17, .lmul, 1), (18, .bipush 18, 2), (20, .lushr, 1), (21, .l2i, 1), (22, .sipush 16383, 3), (25, .iand, 1), (26, .istore_n 3, 1), (27, .aload_n 0, 1), (28, .getfield 43, 3), (31, .iload_n 3, 1), (32, .iaload, 1), (33, .ifCond .eq 34, 3), (36, .aload_n 0, 1), (37, .getfield 39, 3), (40, .aload_n 0, 1), (41, .getfield 43, 3), (44, .iload_n 3, 1), (45, .iaload, 1), (46, .iconst 1, 1), (47, .isub, 1), (48, .laload, 1), (49, .lload_n 1, 1), (50, .lcmp, 1), (51, .ifCond .ne 5, 3), (54, .iconst 1, 1), (55, .ireturn, 1), (56, .iload_n 3, 1), (57, .iconst 1, 1), (58, .iadd, 1), (59, .sipush 16383, 3), (62, .iand, 1), (63, .istore_n 3, 1), (64, .goto (-37), 3), (67, .aload_n 0, 1), (68, .getfield 437, 3), (71, .sipush 6000, 3), (74, .if_icmp .ne 5, 3), (77, .iconst 0, 1), (78, .ireturn, 1), (79, .aload_n 0, 1), (80, .getfield 39, 3), (83, .aload_n 0, 1), (84, .getfield 437, 3), (87, .lload_n 1, 1), (88, .lastore, 1), (89, .aload_n 0, 1), (90, .dup, 1), (91, .getfield 437, 3), (94, .iconst 1, 1), (95, .iadd, 1), (96, .putfield 437, 3), (99, .aload_n 0, 1), (100, .getfield 43, 3), (103, .iload_n 3, 1), (104, .aload_n 0, 1), (105, .getfield 437, 3), (108, .iastore, 1), (109, .iconst 1, 1), (110, .ireturn, 1)]
theorem dc263 : dcs (mC 263) il263 := dc_of (by decide +kernel)
def mo_isMet_L27  (v1 : Int) (K1 : Int → MM → OR) (K2 : MM → OR) : Nat → Int → MM → OR
  | 0, _, _ => none
  | n + 1, v3, M => (bif inB v3 16384 then (bif cmpB .eq (M 174 (v3).toNat) 0 then (K1 v3 M) else (bif inB v3 16384 then (bif inB ((M 174 (v3).toNat) - 1) 6000 then (bif cmpB .ne (lCmp (M 173 (((M 174 (v3).toNat) - 1)).toNat) v1) 0 then (mo_isMet_L27 v1 K1 K2 n (iAnd (v3 + 1) 16383) M) else (K2  M)) else none) else none)) else none)
set_option maxRecDepth 4000 in
theorem mo_isMet_L27_ok {Z : Nat × (Nat → Int)} {d : Nat} (hd : 0 ≤ d)  {v1 : Int} {K1 : Int → MM → OR} {K2 : MM → OR} {res : AR × MM} (k1 : ∀ (x3 : Int) (M : MM), K1 x3 M = some res → EX Z d 263 67 [vR 165, vJ v1, vU, vI x3] [] M res) (k2 : ∀ (M : MM) (j0 j1 j2 j3 : AV), K2  M = some res → EX Z d 263 54 [j0, j1, j2, j3] [] M res) : ∀ (n : Nat) (v3 : Int) (M : MM), mo_isMet_L27 v1 K1 K2 n v3 M = some res → EX Z d 263 27 [vR 165, vJ v1, vU, vI v3] [] M res := by
  intro n
  induction n with
  | zero =>
    intro v3 M hf
    unfold mo_isMet_L27 at hf
    cases hf
  | succ n ih =>
    intro v3 M hf
    unfold mo_isMet_L27 at hf
    refine ex_pu (ls' := [vR 165, vJ v1, vU, vI v3]) (st' := [vR 165]) (dg dc263 19 rfl) rfl rfl ?_
    refine ex_getO (dg dc263 20 rfl) rfl (LOC.st (Nat.le_of_ble_eq_true rfl) rfl) rfl ?_
    show EX Z _ 263 _ [vR 165, vJ v1, vU, vI v3] [vR 174] _ _
    refine ex_pu (ls' := [vR 165, vJ v1, vU, vI v3]) (st' := [vI v3, vR 174]) (dg dc263 21 rfl) rfl rfl ?_
    refine ex_iald (dg dc263 22 rfl) (LOC.st (Nat.le_of_ble_eq_true rfl) rfl) rfl hf (fun _ hf => ?_)
    refine ex_if (t := 67) (dg dc263 23 rfl) rfl hf (fun _ hf => ?_) (fun _ hf => ?_)
    · exact k1 v3 M hf
    · refine ex_pu (ls' := [vR 165, vJ v1, vU, vI v3]) (st' := [vR 165]) (dg dc263 24 rfl) rfl rfl ?_
      refine ex_getO (dg dc263 25 rfl) rfl (LOC.st (Nat.le_of_ble_eq_true rfl) rfl) rfl ?_
      show EX Z _ 263 _ [vR 165, vJ v1, vU, vI v3] [vR 173] _ _
      refine ex_pu (ls' := [vR 165, vJ v1, vU, vI v3]) (st' := [vR 165, vR 173]) (dg dc263 26 rfl) rfl rfl ?_
      refine ex_getO (dg dc263 27 rfl) rfl (LOC.st (Nat.le_of_ble_eq_true rfl) rfl) rfl ?_
      show EX Z _ 263 _ [vR 165, vJ v1, vU, vI v3] [vR 174, vR 173] _ _
      refine ex_pu (ls' := [vR 165, vJ v1, vU, vI v3]) (st' := [vI v3, vR 174, vR 173]) (dg dc263 28 rfl) rfl rfl ?_
      refine ex_iald (dg dc263 29 rfl) (LOC.st (Nat.le_of_ble_eq_true rfl) rfl) rfl hf (fun _ hf => ?_)
      refine ex_pu (ls' := [vR 165, vJ v1, vU, vI v3]) (st' := [vI 1, vI (M 174 (v3).toNat), vR 173]) (dg dc263 30 rfl) rfl rfl ?_
      refine ex_pu (ls' := [vR 165, vJ v1, vU, vI v3]) (st' := [vI ((M 174 (v3).toNat) - 1), vR 173]) (dg dc263 31 rfl) rfl rfl ?_
      refine ex_lald (dg dc263 32 rfl) (LOC.st (Nat.le_of_ble_eq_true rfl) rfl) rfl hf (fun _ hf => ?_)
      refine ex_pu (ls' := [vR 165, vJ v1, vU, vI v3]) (st' := [vJ v1, vJ (M 173 (((M 174 (v3).toNat) - 1)).toNat)]) (dg dc263 33 rfl) rfl rfl ?_
      refine ex_pu (ls' := [vR 165, vJ v1, vU, vI v3]) (st' := [vI (lCmp (M 173 (((M 174 (v3).toNat) - 1)).toNat) v1)]) (dg dc263 34 rfl) rfl rfl ?_
      refine ex_if (t := 56) (dg dc263 35 rfl) rfl hf (fun _ hf => ?_) (fun _ hf => ?_)
      · refine ex_pu (ls' := [vR 165, vJ v1, vU, vI v3]) (st' := [vI v3]) (dg dc263 38 rfl) rfl rfl ?_
        refine ex_pu (ls' := [vR 165, vJ v1, vU, vI v3]) (st' := [vI 1, vI v3]) (dg dc263 39 rfl) rfl rfl ?_
        refine ex_pu (ls' := [vR 165, vJ v1, vU, vI v3]) (st' := [vI (v3 + 1)]) (dg dc263 40 rfl) rfl rfl ?_
        refine ex_pu (ls' := [vR 165, vJ v1, vU, vI v3]) (st' := [vI 16383, vI (v3 + 1)]) (dg dc263 41 rfl) rfl rfl ?_
        refine ex_pu (ls' := [vR 165, vJ v1, vU, vI v3]) (st' := [vI (iAnd (v3 + 1) 16383)]) (dg dc263 42 rfl) rfl rfl ?_
        refine ex_pu (ls' := [vR 165, vJ v1, vU, vI (iAnd (v3 + 1) 16383)]) (st' := []) (dg dc263 43 rfl) rfl rfl ?_
        refine ex_goto (t := 27) (dg dc263 44 rfl) rfl rfl ?_
        exact ih (iAnd (v3 + 1) 16383) M hf
      · exact k2  M _ _ _ _ hf
def mo_isMet (v1 : Int) (M : MM) : OR :=
  (bif cmpB .ge (lCmp v1 0) 0 then (mo_isMet_L27 v1 (fun v3_1 M_2 => (bif cmpB .ne (M_2 165 25) 6000 then (bif inB (M_2 165 25) 6000 then (sM (mU M_2 173 ((M_2 165 25)).toNat v1) fun M_3 => (sM (mU M_3 165 25 ((M_3 165 25) + 1)) fun M_5 => (bif inB v3_1 16384 then (sM (mU M_5 174 (v3_1).toNat (M_5 165 25)) fun M_7 => some (rI 1, M_7)) else none))) else none) else some (rI 0, M_2))) (fun M_9 => some (rI 1, M_9)) FU (iAnd (lUshr ((lXor v1 (lShr v1 27)) * 2654435761) 18) 16383) M) else some (rI 1, M))
set_option maxRecDepth 4000 in
theorem mo_isMet_ok {Z : Nat × (Nat → Int)} {d : Nat} (hd : 0 ≤ d) {M : MM}  {v1 : Int} {res : AR × MM} (hf : mo_isMet v1 M = some res) : EX Z d 263 0 (ent 263 [vR 165, vJ v1]) [] M res := by
  unfold mo_isMet at hf
  show EX Z _ 263 0 [vR 165, vJ v1, vU, vU] [] M res
  refine ex_pu (ls' := [vR 165, vJ v1, vU, vU]) (st' := [vJ v1]) (dg dc263 0 rfl) rfl rfl ?_
  refine ex_pu (ls' := [vR 165, vJ v1, vU, vU]) (st' := [vJ 0, vJ v1]) (dg dc263 1 rfl) rfl rfl ?_
  refine ex_pu (ls' := [vR 165, vJ v1, vU, vU]) (st' := [vI (lCmp v1 0)]) (dg dc263 2 rfl) rfl rfl ?_
  refine ex_if (t := 8) (dg dc263 3 rfl) rfl hf (fun _ hf => ?_) (fun _ hf => ?_)
  · refine ex_pu (ls' := [vR 165, vJ v1, vU, vU]) (st' := [vJ v1]) (dg dc263 6 rfl) rfl rfl ?_
    refine ex_pu (ls' := [vR 165, vJ v1, vU, vU]) (st' := [vJ v1, vJ v1]) (dg dc263 7 rfl) rfl rfl ?_
    refine ex_pu (ls' := [vR 165, vJ v1, vU, vU]) (st' := [vI 27, vJ v1, vJ v1]) (dg dc263 8 rfl) rfl rfl ?_
    refine ex_pu (ls' := [vR 165, vJ v1, vU, vU]) (st' := [vJ (lShr v1 27), vJ v1]) (dg dc263 9 rfl) rfl rfl ?_
    refine ex_pu (ls' := [vR 165, vJ v1, vU, vU]) (st' := [vJ (lXor v1 (lShr v1 27))]) (dg dc263 10 rfl) rfl rfl ?_
    refine ex_ldc2 (dg dc263 11 rfl) rfl ?_
    refine ex_pu (ls' := [vR 165, vJ v1, vU, vU]) (st' := [vJ ((lXor v1 (lShr v1 27)) * 2654435761)]) (dg dc263 12 rfl) rfl rfl ?_
    refine ex_pu (ls' := [vR 165, vJ v1, vU, vU]) (st' := [vI 18, vJ ((lXor v1 (lShr v1 27)) * 2654435761)]) (dg dc263 13 rfl) rfl rfl ?_
    refine ex_pu (ls' := [vR 165, vJ v1, vU, vU]) (st' := [vJ (lUshr ((lXor v1 (lShr v1 27)) * 2654435761) 18)]) (dg dc263 14 rfl) rfl rfl ?_
    refine ex_pu (ls' := [vR 165, vJ v1, vU, vU]) (st' := [vI (lUshr ((lXor v1 (lShr v1 27)) * 2654435761) 18)]) (dg dc263 15 rfl) rfl rfl ?_
    refine ex_pu (ls' := [vR 165, vJ v1, vU, vU]) (st' := [vI 16383, vI (lUshr ((lXor v1 (lShr v1 27)) * 2654435761) 18)]) (dg dc263 16 rfl) rfl rfl ?_
    refine ex_pu (ls' := [vR 165, vJ v1, vU, vU]) (st' := [vI (iAnd (lUshr ((lXor v1 (lShr v1 27)) * 2654435761) 18) 16383)]) (dg dc263 17 rfl) rfl rfl ?_
    refine ex_pu (ls' := [vR 165, vJ v1, vU, vI (iAnd (lUshr ((lXor v1 (lShr v1 27)) * 2654435761) 18) 16383)]) (st' := []) (dg dc263 18 rfl) rfl rfl ?_
    refine mo_isMet_L27_ok hd  ?_ ?_ FU (iAnd (lUshr ((lXor v1 (lShr v1 27)) * 2654435761) 18) 16383) M hf
    · intro v3_1 M_2 hf
      refine ex_pu (ls' := [vR 165, vJ v1, vU, vI v3_1]) (st' := [vR 165]) (dg dc263 45 rfl) rfl rfl ?_
      refine ex_getI (dg dc263 46 rfl) rfl (LOC.st (Nat.le_of_ble_eq_true rfl) rfl) rfl ?_
      refine ex_pu (ls' := [vR 165, vJ v1, vU, vI v3_1]) (st' := [vI 6000, vI (M_2 165 25)]) (dg dc263 47 rfl) rfl rfl ?_
      refine ex_icmp (t := 79) (dg dc263 48 rfl) rfl hf (fun _ hf => ?_) (fun _ hf => ?_)
      · refine ex_pu (ls' := [vR 165, vJ v1, vU, vI v3_1]) (st' := [vR 165]) (dg dc263 51 rfl) rfl rfl ?_
        refine ex_getO (dg dc263 52 rfl) rfl (LOC.st (Nat.le_of_ble_eq_true rfl) rfl) rfl ?_
        show EX Z _ 263 _ [vR 165, vJ v1, vU, vI v3_1] [vR 173] _ _
        refine ex_pu (ls' := [vR 165, vJ v1, vU, vI v3_1]) (st' := [vR 165, vR 173]) (dg dc263 53 rfl) rfl rfl ?_
        refine ex_getI (dg dc263 54 rfl) rfl (LOC.st (Nat.le_of_ble_eq_true rfl) rfl) rfl ?_
        refine ex_pu (ls' := [vR 165, vJ v1, vU, vI v3_1]) (st' := [vJ v1, vI (M_2 165 25), vR 173]) (dg dc263 55 rfl) rfl rfl ?_
        refine ex_last (dg dc263 56 rfl) (LOC.st (Nat.le_of_ble_eq_true rfl) rfl) rfl rfl hf (fun _ hf => ?_)
        refine ex_gen hf (fun M_3 hM_4 hf => ?_)
        refine ex_pu (ls' := [vR 165, vJ v1, vU, vI v3_1]) (st' := [vR 165]) (dg dc263 57 rfl) rfl rfl ?_
        refine ex_pu (ls' := [vR 165, vJ v1, vU, vI v3_1]) (st' := [vR 165, vR 165]) (dg dc263 58 rfl) rfl rfl ?_
        refine ex_getI (dg dc263 59 rfl) rfl (LOC.st (Nat.le_of_ble_eq_true rfl) rfl) rfl ?_
        refine ex_pu (ls' := [vR 165, vJ v1, vU, vI v3_1]) (st' := [vI 1, vI (M_3 165 25), vR 165]) (dg dc263 60 rfl) rfl rfl ?_
        refine ex_pu (ls' := [vR 165, vJ v1, vU, vI v3_1]) (st' := [vI ((M_3 165 25) + 1), vR 165]) (dg dc263 61 rfl) rfl rfl ?_
        refine ex_putI (dg dc263 62 rfl) rfl (LOC.st (Nat.le_of_ble_eq_true rfl) rfl) rfl rfl rfl ?_
        refine ex_gen hf (fun M_5 hM_6 hf => ?_)
        refine ex_pu (ls' := [vR 165, vJ v1, vU, vI v3_1]) (st' := [vR 165]) (dg dc263 63 rfl) rfl rfl ?_
        refine ex_getO (dg dc263 64 rfl) rfl (LOC.st (Nat.le_of_ble_eq_true rfl) rfl) rfl ?_
        show EX Z _ 263 _ [vR 165, vJ v1, vU, vI v3_1] [vR 174] _ _
        refine ex_pu (ls' := [vR 165, vJ v1, vU, vI v3_1]) (st' := [vI v3_1, vR 174]) (dg dc263 65 rfl) rfl rfl ?_
        refine ex_pu (ls' := [vR 165, vJ v1, vU, vI v3_1]) (st' := [vR 165, vI v3_1, vR 174]) (dg dc263 66 rfl) rfl rfl ?_
        refine ex_getI (dg dc263 67 rfl) rfl (LOC.st (Nat.le_of_ble_eq_true rfl) rfl) rfl ?_
        refine ex_iast (dg dc263 68 rfl) (LOC.st (Nat.le_of_ble_eq_true rfl) rfl) rfl rfl hf (fun _ hf => ?_)
        refine ex_gen hf (fun M_7 hM_8 hf => ?_)
        refine ex_pu (ls' := [vR 165, vJ v1, vU, vI v3_1]) (st' := [vI 1]) (dg dc263 69 rfl) rfl rfl ?_
        exact ex_ire (dg dc263 70 rfl) rfl hf
      · refine ex_pu (ls' := [vR 165, vJ v1, vU, vI v3_1]) (st' := [vI 0]) (dg dc263 49 rfl) rfl rfl ?_
        exact ex_ire (dg dc263 50 rfl) rfl hf
    · intro M_9 j0_10 j1_11 j2_12 j3_13 hf
      refine ex_pu (ls' := [j0_10, j1_11, j2_12, j3_13]) (st' := [vI 1]) (dg dc263 36 rfl) rfl rfl ?_
      exact ex_ire (dg dc263 37 rfl) rfl hf
  · refine ex_pu (ls' := [vR 165, vJ v1, vU, vU]) (st' := [vI 1]) (dg dc263 4 rfl) rfl rfl ?_
    exact ex_ire (dg dc263 5 rfl) rfl hf
-- GlassHillModel.allBrothers
def il266 : List (Nat × Instr × Nat) := [(0, .iload_n 1, 1), (1, .iconst 1, 1), (2, .aload_n 0, 1), (3, .invokevirtual 90, 3), (6, .ishl, 1), (7, .iconst 1, 1), (8, .isub, 1), (9, .iand, 1), (10, .ireturn, 1)]
theorem dc266 : dcs (mC 266) il266 := dc_of (by decide +kernel)
def mo_allBrothers (v1 : Int) (M : MM) : OR :=
  (bI (mo_brothers  M) fun z_3 M_2 => some (rI (iAnd v1 ((iShl 1 z_3) - 1)), M_2))
set_option maxRecDepth 4000 in
theorem mo_allBrothers_ok {Z : Nat × (Nat → Int)} {d : Nat} (hd : 1 ≤ d) {M : MM}  {v1 : Int} {res : AR × MM} (hf : mo_allBrothers v1 M = some res) : EX Z d 266 0 (ent 266 [vR 165, vI v1]) [] M res := by
  obtain ⟨e9, rfl⟩ : ∃ e9, d = e9 + 1 := ⟨d - 1, by omega⟩
  unfold mo_allBrothers at hf
  show EX Z _ 266 0 [vR 165, vI v1] [] M res
  refine ex_pu (ls' := [vR 165, vI v1]) (st' := [vI v1]) (dg dc266 0 rfl) rfl rfl ?_
  refine ex_pu (ls' := [vR 165, vI v1]) (st' := [vI 1, vI v1]) (dg dc266 1 rfl) rfl rfl ?_
  refine ex_pu (ls' := [vR 165, vI v1]) (st' := [vR 165, vI 1, vI v1]) (dg dc266 2 rfl) rfl rfl ?_
  refine ex_cI (vs := [vR 165]) (st' := [vI 1, vI v1]) (F := (mo_brothers  M)) (Or.inr (Or.inl ⟨rfl, (dg dc266 3 rfl)⟩)) rfl rfl (rk1 (LOC.st (Nat.le_of_ble_eq_true rfl) rfl) rfl) rfl (fun _ r9 => mo_brothers_ok (Z := Z) (d := e9) (by omega)  r9) hf (fun z_3 M_2 he_1 hf => ?_)
  refine ex_pu (ls' := [vR 165, vI v1]) (st' := [vI (iShl 1 z_3), vI v1]) (dg dc266 4 rfl) rfl rfl ?_
  refine ex_pu (ls' := [vR 165, vI v1]) (st' := [vI 1, vI (iShl 1 z_3), vI v1]) (dg dc266 5 rfl) rfl rfl ?_
  refine ex_pu (ls' := [vR 165, vI v1]) (st' := [vI ((iShl 1 z_3) - 1), vI v1]) (dg dc266 6 rfl) rfl rfl ?_
  refine ex_pu (ls' := [vR 165, vI v1]) (st' := [vI (iAnd v1 ((iShl 1 z_3) - 1))]) (dg dc266 7 rfl) rfl rfl ?_
  exact ex_ire (dg dc266 8 rfl) rfl hf
-- GlassHillModel.standsIn
def il271 : List (Nat × Instr × Nat) := [(0, .iconst 1, 1), (1, .istore_n 3, 1), (2, .iconst 0, 1), (3, .istore 4, 2), (5, .iload 4, 2), (7, .aload_n 0, 1), (8, .invokevirtual 76, 3), (11, .if_icmp .ge 60, 3), (14, .iload_n 3, 1), (15, .ifCond .eq 48, 3), (18, .aload_n 0, 1), (19, .iload 4, 2), (21, .invokevirtual 159, 3), (24, .ifCond .eq 35, 3), (27, .aload_n 0, 1), (28, .iload 4, 2), (30, .bipush 7, 2), (32, .invokevirtual 72, 3), (35, .iconst 1, 1), (36, .if_icmp .eq 23, 3), (39, .aload_n 0, 1), (40, .iload_n 2, 1), (41, .iload 4, 2), (43, .invokevirtual 387, 3), (46, .ifCond .eq 13, 3), (49, .aload_n 0, 1), (50, .iload_n 1, 1), (51, .iload 4, 2), (53, .invokevirtual 387, 3), (56, .ifCond .eq 7, 3), (59, .iconst 1, 1), (60, .goto 4, 3), (63, .iconst 0, 1), (64, .istore_n 3, 1), (65, .iinc 4 1, 3), (68, .goto (-63), 3), (71, .iconst 0, 1), (72, .istore 4, 2), (74, .iload 4, 2), (76, .aload_n 0, 1), (77, .invokevirtual 90, 3), (80, .if_icmp .ge 49, 3), (83, .iload_n 3, 1), (84, .ifCond .eq 37, 3), (87, .aload_n 0, 1), (88, .iload 4, 2), (90, .iconst 5, 1), (91, .invokevirtual 287, 3), (94, .ifCond .ge 23, 3), (97, .aload_n 0, 1), (98, .iload_n 2, 1), (99, .iload 4, 2), (101, .invokevirtual 390, 3), (104, .ifCond .eq 13, 3), (107, .aload_n 0, 1), (108, .iload_n 1, 1), (109, .iload 4, 2), (111, .invokevirtual 390, 3), (114, .ifCond .eq 7, 3), (117, .iconst 1, 1), (118, .goto 4, 3), (121, .iconst 0, 1), (122, .istore_n 3, 1), (123, .iinc 4 1, 3), (126, .goto (-52), 3), (129, .iload_n 3, 1), (130, .ireturn, 1)]
theorem dc271 : dcs (mC 271) il271 := dc_of (by decide +kernel)
def mo_standsIn_L5  (v1 v2 : Int) (K1 : Int → MM → OR) : Nat → Int → Int → MM → OR
  | 0, _, _, _ => none
  | n + 1, v3, v4, M => (bI (mo_places  M) fun z_3 M_2 => (bif cmpB .ge v4 z_3 then (K1 v3 M_2) else (bif cmpB .eq v3 0 then (mo_standsIn_L5 v1 v2 K1 n 0 (v4 + 1) M_2) else (bI (mo_isKeeper v4 M_2) fun z_6 M_5 => (bif cmpB .eq z_6 0 then (mo_standsIn_L5 v1 v2 K1 n 1 (v4 + 1) M_5) else (bI (mo_of v4 7 M_5) fun z_9 M_8 => (bif cmpB .eq z_9 1 then (mo_standsIn_L5 v1 v2 K1 n 1 (v4 + 1) M_8) else (bI (mo_fitsKeeper v2 v4 M_8) fun z_12 M_11 => (bif cmpB .eq z_12 0 then (mo_standsIn_L5 v1 v2 K1 n 1 (v4 + 1) M_11) else (bI (mo_fitsKeeper v1 v4 M_11) fun z_15 M_14 => (bif cmpB .eq z_15 0 then (mo_standsIn_L5 v1 v2 K1 n 0 (v4 + 1) M_14) else (mo_standsIn_L5 v1 v2 K1 n 1 (v4 + 1) M_14))))))))))))
set_option maxRecDepth 4000 in
theorem mo_standsIn_L5_ok {Z : Nat × (Nat → Int)} {d : Nat} (hd : 2 ≤ d)  {v1 v2 : Int} {K1 : Int → MM → OR} {res : AR × MM} (k1 : ∀ (x3 : Int) (M : MM) (j4 : AV), K1 x3 M = some res → EX Z d 271 71 [vR 165, vI v1, vI v2, vI x3, j4] [] M res) : ∀ (n : Nat) (v3 v4 : Int) (M : MM), mo_standsIn_L5 v1 v2 K1 n v3 v4 M = some res → EX Z d 271 5 [vR 165, vI v1, vI v2, vI v3, vI v4] [] M res := by
  obtain ⟨e9, rfl⟩ : ∃ e9, d = e9 + 1 := ⟨d - 1, by omega⟩
  intro n
  induction n with
  | zero =>
    intro v3 v4 M hf
    unfold mo_standsIn_L5 at hf
    cases hf
  | succ n ih =>
    intro v3 v4 M hf
    unfold mo_standsIn_L5 at hf
    refine ex_pu (ls' := [vR 165, vI v1, vI v2, vI v3, vI v4]) (st' := [vI v4]) (dg dc271 4 rfl) rfl rfl ?_
    refine ex_pu (ls' := [vR 165, vI v1, vI v2, vI v3, vI v4]) (st' := [vR 165, vI v4]) (dg dc271 5 rfl) rfl rfl ?_
    refine ex_cI (vs := [vR 165]) (st' := [vI v4]) (F := (mo_places  M)) (Or.inr (Or.inl ⟨rfl, (dg dc271 6 rfl)⟩)) rfl rfl (rk1 (LOC.st (Nat.le_of_ble_eq_true rfl) rfl) rfl) rfl (fun _ r9 => mo_places_ok (Z := Z) (d := e9) (by omega)  r9) hf (fun z_3 M_2 he_1 hf => ?_)
    refine ex_icmp (t := 71) (dg dc271 7 rfl) rfl hf (fun _ hf => ?_) (fun _ hf => ?_)
    · exact k1 v3 M_2 _ hf
    · refine ex_pu (ls' := [vR 165, vI v1, vI v2, vI v3, vI v4]) (st' := [vI v3]) (dg dc271 8 rfl) rfl rfl ?_
      refine ex_if (t := 63) (dg dc271 9 rfl) rfl hf (fun _ hf => ?_) (fun _ hf => ?_)
      · refine ex_pu (ls' := [vR 165, vI v1, vI v2, vI v3, vI v4]) (st' := [vI 0]) (dg dc271 32 rfl) rfl rfl ?_
        refine ex_pu (ls' := [vR 165, vI v1, vI v2, vI 0, vI v4]) (st' := []) (dg dc271 33 rfl) rfl rfl ?_
        refine ex_pu (ls' := [vR 165, vI v1, vI v2, vI 0, vI (v4 + 1)]) (st' := []) (dg dc271 34 rfl) rfl rfl ?_
        refine ex_goto (t := 5) (dg dc271 35 rfl) rfl rfl ?_
        exact ih 0 (v4 + 1) M_2 hf
      · refine ex_pu (ls' := [vR 165, vI v1, vI v2, vI v3, vI v4]) (st' := [vR 165]) (dg dc271 10 rfl) rfl rfl ?_
        refine ex_pu (ls' := [vR 165, vI v1, vI v2, vI v3, vI v4]) (st' := [vI v4, vR 165]) (dg dc271 11 rfl) rfl rfl ?_
        refine ex_cI (vs := [vR 165, vI v4]) (st' := []) (F := (mo_isKeeper v4 M_2)) (Or.inr (Or.inl ⟨rfl, (dg dc271 12 rfl)⟩)) rfl rfl (rk1 (LOC.st (Nat.le_of_ble_eq_true rfl) rfl) rfl) rfl (fun _ r9 => mo_isKeeper_ok (Z := Z) (d := e9) (by omega)  r9) hf (fun z_6 M_5 he_4 hf => ?_)
        refine ex_if (t := 59) (dg dc271 13 rfl) rfl hf (fun _ hf => ?_) (fun _ hf => ?_)
        · refine ex_pu (ls' := [vR 165, vI v1, vI v2, vI v3, vI v4]) (st' := [vI 1]) (dg dc271 30 rfl) rfl rfl ?_
          refine ex_goto (t := 64) (dg dc271 31 rfl) rfl rfl ?_
          refine ex_pu (ls' := [vR 165, vI v1, vI v2, vI 1, vI v4]) (st' := []) (dg dc271 33 rfl) rfl rfl ?_
          refine ex_pu (ls' := [vR 165, vI v1, vI v2, vI 1, vI (v4 + 1)]) (st' := []) (dg dc271 34 rfl) rfl rfl ?_
          refine ex_goto (t := 5) (dg dc271 35 rfl) rfl rfl ?_
          exact ih 1 (v4 + 1) M_5 hf
        · refine ex_pu (ls' := [vR 165, vI v1, vI v2, vI v3, vI v4]) (st' := [vR 165]) (dg dc271 14 rfl) rfl rfl ?_
          refine ex_pu (ls' := [vR 165, vI v1, vI v2, vI v3, vI v4]) (st' := [vI v4, vR 165]) (dg dc271 15 rfl) rfl rfl ?_
          refine ex_pu (ls' := [vR 165, vI v1, vI v2, vI v3, vI v4]) (st' := [vI 7, vI v4, vR 165]) (dg dc271 16 rfl) rfl rfl ?_
          refine ex_cI (vs := [vR 165, vI v4, vI 7]) (st' := []) (F := (mo_of v4 7 M_5)) (Or.inr (Or.inl ⟨rfl, (dg dc271 17 rfl)⟩)) rfl rfl (rk1 (LOC.st (Nat.le_of_ble_eq_true rfl) rfl) rfl) rfl (fun _ r9 => mo_of_ok (Z := Z) (d := e9) (by omega)  r9) hf (fun z_9 M_8 he_7 hf => ?_)
          refine ex_pu (ls' := [vR 165, vI v1, vI v2, vI v3, vI v4]) (st' := [vI 1, vI z_9]) (dg dc271 18 rfl) rfl rfl ?_
          refine ex_icmp (t := 59) (dg dc271 19 rfl) rfl hf (fun _ hf => ?_) (fun _ hf => ?_)
          · refine ex_pu (ls' := [vR 165, vI v1, vI v2, vI v3, vI v4]) (st' := [vI 1]) (dg dc271 30 rfl) rfl rfl ?_
            refine ex_goto (t := 64) (dg dc271 31 rfl) rfl rfl ?_
            refine ex_pu (ls' := [vR 165, vI v1, vI v2, vI 1, vI v4]) (st' := []) (dg dc271 33 rfl) rfl rfl ?_
            refine ex_pu (ls' := [vR 165, vI v1, vI v2, vI 1, vI (v4 + 1)]) (st' := []) (dg dc271 34 rfl) rfl rfl ?_
            refine ex_goto (t := 5) (dg dc271 35 rfl) rfl rfl ?_
            exact ih 1 (v4 + 1) M_8 hf
          · refine ex_pu (ls' := [vR 165, vI v1, vI v2, vI v3, vI v4]) (st' := [vR 165]) (dg dc271 20 rfl) rfl rfl ?_
            refine ex_pu (ls' := [vR 165, vI v1, vI v2, vI v3, vI v4]) (st' := [vI v2, vR 165]) (dg dc271 21 rfl) rfl rfl ?_
            refine ex_pu (ls' := [vR 165, vI v1, vI v2, vI v3, vI v4]) (st' := [vI v4, vI v2, vR 165]) (dg dc271 22 rfl) rfl rfl ?_
            refine ex_cI (vs := [vR 165, vI v2, vI v4]) (st' := []) (F := (mo_fitsKeeper v2 v4 M_8)) (Or.inr (Or.inl ⟨rfl, (dg dc271 23 rfl)⟩)) rfl rfl (rk1 (LOC.st (Nat.le_of_ble_eq_true rfl) rfl) rfl) rfl (fun _ r9 => mo_fitsKeeper_ok (Z := Z) (d := e9) (by omega)  r9) hf (fun z_12 M_11 he_10 hf => ?_)
            refine ex_if (t := 59) (dg dc271 24 rfl) rfl hf (fun _ hf => ?_) (fun _ hf => ?_)
            · refine ex_pu (ls' := [vR 165, vI v1, vI v2, vI v3, vI v4]) (st' := [vI 1]) (dg dc271 30 rfl) rfl rfl ?_
              refine ex_goto (t := 64) (dg dc271 31 rfl) rfl rfl ?_
              refine ex_pu (ls' := [vR 165, vI v1, vI v2, vI 1, vI v4]) (st' := []) (dg dc271 33 rfl) rfl rfl ?_
              refine ex_pu (ls' := [vR 165, vI v1, vI v2, vI 1, vI (v4 + 1)]) (st' := []) (dg dc271 34 rfl) rfl rfl ?_
              refine ex_goto (t := 5) (dg dc271 35 rfl) rfl rfl ?_
              exact ih 1 (v4 + 1) M_11 hf
            · refine ex_pu (ls' := [vR 165, vI v1, vI v2, vI v3, vI v4]) (st' := [vR 165]) (dg dc271 25 rfl) rfl rfl ?_
              refine ex_pu (ls' := [vR 165, vI v1, vI v2, vI v3, vI v4]) (st' := [vI v1, vR 165]) (dg dc271 26 rfl) rfl rfl ?_
              refine ex_pu (ls' := [vR 165, vI v1, vI v2, vI v3, vI v4]) (st' := [vI v4, vI v1, vR 165]) (dg dc271 27 rfl) rfl rfl ?_
              refine ex_cI (vs := [vR 165, vI v1, vI v4]) (st' := []) (F := (mo_fitsKeeper v1 v4 M_11)) (Or.inr (Or.inl ⟨rfl, (dg dc271 28 rfl)⟩)) rfl rfl (rk1 (LOC.st (Nat.le_of_ble_eq_true rfl) rfl) rfl) rfl (fun _ r9 => mo_fitsKeeper_ok (Z := Z) (d := e9) (by omega)  r9) hf (fun z_15 M_14 he_13 hf => ?_)
              refine ex_if (t := 63) (dg dc271 29 rfl) rfl hf (fun _ hf => ?_) (fun _ hf => ?_)
              · refine ex_pu (ls' := [vR 165, vI v1, vI v2, vI v3, vI v4]) (st' := [vI 0]) (dg dc271 32 rfl) rfl rfl ?_
                refine ex_pu (ls' := [vR 165, vI v1, vI v2, vI 0, vI v4]) (st' := []) (dg dc271 33 rfl) rfl rfl ?_
                refine ex_pu (ls' := [vR 165, vI v1, vI v2, vI 0, vI (v4 + 1)]) (st' := []) (dg dc271 34 rfl) rfl rfl ?_
                refine ex_goto (t := 5) (dg dc271 35 rfl) rfl rfl ?_
                exact ih 0 (v4 + 1) M_14 hf
              · refine ex_pu (ls' := [vR 165, vI v1, vI v2, vI v3, vI v4]) (st' := [vI 1]) (dg dc271 30 rfl) rfl rfl ?_
                refine ex_goto (t := 64) (dg dc271 31 rfl) rfl rfl ?_
                refine ex_pu (ls' := [vR 165, vI v1, vI v2, vI 1, vI v4]) (st' := []) (dg dc271 33 rfl) rfl rfl ?_
                refine ex_pu (ls' := [vR 165, vI v1, vI v2, vI 1, vI (v4 + 1)]) (st' := []) (dg dc271 34 rfl) rfl rfl ?_
                refine ex_goto (t := 5) (dg dc271 35 rfl) rfl rfl ?_
                exact ih 1 (v4 + 1) M_14 hf
def mo_standsIn_L74  (v1 v2 : Int) (K1 : Int → MM → OR) : Nat → Int → Int → MM → OR
  | 0, _, _, _ => none
  | n + 1, v3, v4, M => (bI (mo_brothers  M) fun z_21 M_20 => (bif cmpB .ge v4 z_21 then (K1 v3 M_20) else (bif cmpB .eq v3 0 then (mo_standsIn_L74 v1 v2 K1 n 0 (v4 + 1) M_20) else (bI (mo_ofBrother v4 5 M_20) fun z_24 M_23 => (bif cmpB .ge z_24 0 then (mo_standsIn_L74 v1 v2 K1 n 1 (v4 + 1) M_23) else (bI (mo_fitsBrother v2 v4 M_23) fun z_27 M_26 => (bif cmpB .eq z_27 0 then (mo_standsIn_L74 v1 v2 K1 n 1 (v4 + 1) M_26) else (bI (mo_fitsBrother v1 v4 M_26) fun z_30 M_29 => (bif cmpB .eq z_30 0 then (mo_standsIn_L74 v1 v2 K1 n 0 (v4 + 1) M_29) else (mo_standsIn_L74 v1 v2 K1 n 1 (v4 + 1) M_29))))))))))
set_option maxRecDepth 4000 in
theorem mo_standsIn_L74_ok {Z : Nat × (Nat → Int)} {d : Nat} (hd : 2 ≤ d)  {v1 v2 : Int} {K1 : Int → MM → OR} {res : AR × MM} (k1 : ∀ (x3 : Int) (M : MM) (j0 j1 j2 j4 : AV), K1 x3 M = some res → EX Z d 271 129 [j0, j1, j2, vI x3, j4] [] M res) : ∀ (n : Nat) (v3 v4 : Int) (M : MM), mo_standsIn_L74 v1 v2 K1 n v3 v4 M = some res → EX Z d 271 74 [vR 165, vI v1, vI v2, vI v3, vI v4] [] M res := by
  obtain ⟨e9, rfl⟩ : ∃ e9, d = e9 + 1 := ⟨d - 1, by omega⟩
  intro n
  induction n with
  | zero =>
    intro v3 v4 M hf
    unfold mo_standsIn_L74 at hf
    cases hf
  | succ n ih =>
    intro v3 v4 M hf
    unfold mo_standsIn_L74 at hf
    refine ex_pu (ls' := [vR 165, vI v1, vI v2, vI v3, vI v4]) (st' := [vI v4]) (dg dc271 38 rfl) rfl rfl ?_
    refine ex_pu (ls' := [vR 165, vI v1, vI v2, vI v3, vI v4]) (st' := [vR 165, vI v4]) (dg dc271 39 rfl) rfl rfl ?_
    refine ex_cI (vs := [vR 165]) (st' := [vI v4]) (F := (mo_brothers  M)) (Or.inr (Or.inl ⟨rfl, (dg dc271 40 rfl)⟩)) rfl rfl (rk1 (LOC.st (Nat.le_of_ble_eq_true rfl) rfl) rfl) rfl (fun _ r9 => mo_brothers_ok (Z := Z) (d := e9) (by omega)  r9) hf (fun z_21 M_20 he_19 hf => ?_)
    refine ex_icmp (t := 129) (dg dc271 41 rfl) rfl hf (fun _ hf => ?_) (fun _ hf => ?_)
    · exact k1 v3 M_20 _ _ _ _ hf
    · refine ex_pu (ls' := [vR 165, vI v1, vI v2, vI v3, vI v4]) (st' := [vI v3]) (dg dc271 42 rfl) rfl rfl ?_
      refine ex_if (t := 121) (dg dc271 43 rfl) rfl hf (fun _ hf => ?_) (fun _ hf => ?_)
      · refine ex_pu (ls' := [vR 165, vI v1, vI v2, vI v3, vI v4]) (st' := [vI 0]) (dg dc271 61 rfl) rfl rfl ?_
        refine ex_pu (ls' := [vR 165, vI v1, vI v2, vI 0, vI v4]) (st' := []) (dg dc271 62 rfl) rfl rfl ?_
        refine ex_pu (ls' := [vR 165, vI v1, vI v2, vI 0, vI (v4 + 1)]) (st' := []) (dg dc271 63 rfl) rfl rfl ?_
        refine ex_goto (t := 74) (dg dc271 64 rfl) rfl rfl ?_
        exact ih 0 (v4 + 1) M_20 hf
      · refine ex_pu (ls' := [vR 165, vI v1, vI v2, vI v3, vI v4]) (st' := [vR 165]) (dg dc271 44 rfl) rfl rfl ?_
        refine ex_pu (ls' := [vR 165, vI v1, vI v2, vI v3, vI v4]) (st' := [vI v4, vR 165]) (dg dc271 45 rfl) rfl rfl ?_
        refine ex_pu (ls' := [vR 165, vI v1, vI v2, vI v3, vI v4]) (st' := [vI 5, vI v4, vR 165]) (dg dc271 46 rfl) rfl rfl ?_
        refine ex_cI (vs := [vR 165, vI v4, vI 5]) (st' := []) (F := (mo_ofBrother v4 5 M_20)) (Or.inr (Or.inl ⟨rfl, (dg dc271 47 rfl)⟩)) rfl rfl (rk1 (LOC.st (Nat.le_of_ble_eq_true rfl) rfl) rfl) rfl (fun _ r9 => mo_ofBrother_ok (Z := Z) (d := e9) (by omega)  r9) hf (fun z_24 M_23 he_22 hf => ?_)
        refine ex_if (t := 117) (dg dc271 48 rfl) rfl hf (fun _ hf => ?_) (fun _ hf => ?_)
        · refine ex_pu (ls' := [vR 165, vI v1, vI v2, vI v3, vI v4]) (st' := [vI 1]) (dg dc271 59 rfl) rfl rfl ?_
          refine ex_goto (t := 122) (dg dc271 60 rfl) rfl rfl ?_
          refine ex_pu (ls' := [vR 165, vI v1, vI v2, vI 1, vI v4]) (st' := []) (dg dc271 62 rfl) rfl rfl ?_
          refine ex_pu (ls' := [vR 165, vI v1, vI v2, vI 1, vI (v4 + 1)]) (st' := []) (dg dc271 63 rfl) rfl rfl ?_
          refine ex_goto (t := 74) (dg dc271 64 rfl) rfl rfl ?_
          exact ih 1 (v4 + 1) M_23 hf
        · refine ex_pu (ls' := [vR 165, vI v1, vI v2, vI v3, vI v4]) (st' := [vR 165]) (dg dc271 49 rfl) rfl rfl ?_
          refine ex_pu (ls' := [vR 165, vI v1, vI v2, vI v3, vI v4]) (st' := [vI v2, vR 165]) (dg dc271 50 rfl) rfl rfl ?_
          refine ex_pu (ls' := [vR 165, vI v1, vI v2, vI v3, vI v4]) (st' := [vI v4, vI v2, vR 165]) (dg dc271 51 rfl) rfl rfl ?_
          refine ex_cI (vs := [vR 165, vI v2, vI v4]) (st' := []) (F := (mo_fitsBrother v2 v4 M_23)) (Or.inr (Or.inl ⟨rfl, (dg dc271 52 rfl)⟩)) rfl rfl (rk1 (LOC.st (Nat.le_of_ble_eq_true rfl) rfl) rfl) rfl (fun _ r9 => mo_fitsBrother_ok (Z := Z) (d := e9) (by omega)  r9) hf (fun z_27 M_26 he_25 hf => ?_)
          refine ex_if (t := 117) (dg dc271 53 rfl) rfl hf (fun _ hf => ?_) (fun _ hf => ?_)
          · refine ex_pu (ls' := [vR 165, vI v1, vI v2, vI v3, vI v4]) (st' := [vI 1]) (dg dc271 59 rfl) rfl rfl ?_
            refine ex_goto (t := 122) (dg dc271 60 rfl) rfl rfl ?_
            refine ex_pu (ls' := [vR 165, vI v1, vI v2, vI 1, vI v4]) (st' := []) (dg dc271 62 rfl) rfl rfl ?_
            refine ex_pu (ls' := [vR 165, vI v1, vI v2, vI 1, vI (v4 + 1)]) (st' := []) (dg dc271 63 rfl) rfl rfl ?_
            refine ex_goto (t := 74) (dg dc271 64 rfl) rfl rfl ?_
            exact ih 1 (v4 + 1) M_26 hf
          · refine ex_pu (ls' := [vR 165, vI v1, vI v2, vI v3, vI v4]) (st' := [vR 165]) (dg dc271 54 rfl) rfl rfl ?_
            refine ex_pu (ls' := [vR 165, vI v1, vI v2, vI v3, vI v4]) (st' := [vI v1, vR 165]) (dg dc271 55 rfl) rfl rfl ?_
            refine ex_pu (ls' := [vR 165, vI v1, vI v2, vI v3, vI v4]) (st' := [vI v4, vI v1, vR 165]) (dg dc271 56 rfl) rfl rfl ?_
            refine ex_cI (vs := [vR 165, vI v1, vI v4]) (st' := []) (F := (mo_fitsBrother v1 v4 M_26)) (Or.inr (Or.inl ⟨rfl, (dg dc271 57 rfl)⟩)) rfl rfl (rk1 (LOC.st (Nat.le_of_ble_eq_true rfl) rfl) rfl) rfl (fun _ r9 => mo_fitsBrother_ok (Z := Z) (d := e9) (by omega)  r9) hf (fun z_30 M_29 he_28 hf => ?_)
            refine ex_if (t := 121) (dg dc271 58 rfl) rfl hf (fun _ hf => ?_) (fun _ hf => ?_)
            · refine ex_pu (ls' := [vR 165, vI v1, vI v2, vI v3, vI v4]) (st' := [vI 0]) (dg dc271 61 rfl) rfl rfl ?_
              refine ex_pu (ls' := [vR 165, vI v1, vI v2, vI 0, vI v4]) (st' := []) (dg dc271 62 rfl) rfl rfl ?_
              refine ex_pu (ls' := [vR 165, vI v1, vI v2, vI 0, vI (v4 + 1)]) (st' := []) (dg dc271 63 rfl) rfl rfl ?_
              refine ex_goto (t := 74) (dg dc271 64 rfl) rfl rfl ?_
              exact ih 0 (v4 + 1) M_29 hf
            · refine ex_pu (ls' := [vR 165, vI v1, vI v2, vI v3, vI v4]) (st' := [vI 1]) (dg dc271 59 rfl) rfl rfl ?_
              refine ex_goto (t := 122) (dg dc271 60 rfl) rfl rfl ?_
              refine ex_pu (ls' := [vR 165, vI v1, vI v2, vI 1, vI v4]) (st' := []) (dg dc271 62 rfl) rfl rfl ?_
              refine ex_pu (ls' := [vR 165, vI v1, vI v2, vI 1, vI (v4 + 1)]) (st' := []) (dg dc271 63 rfl) rfl rfl ?_
              refine ex_goto (t := 74) (dg dc271 64 rfl) rfl rfl ?_
              exact ih 1 (v4 + 1) M_29 hf
def mo_standsIn (v1 : Int) (v2 : Int) (M : MM) : OR :=
  (mo_standsIn_L5 v1 v2 (fun v3_16 M_17 => (mo_standsIn_L74 v1 v2 (fun v3_31 M_32 => (bif zo v3_31 then some (rI v3_31, M_32) else none)) FU v3_16 0 M_17)) FU 1 0 M)
set_option maxRecDepth 4000 in
theorem mo_standsIn_ok {Z : Nat × (Nat → Int)} {d : Nat} (hd : 2 ≤ d) {M : MM}  {v1 v2 : Int} {res : AR × MM} (hf : mo_standsIn v1 v2 M = some res) : EX Z d 271 0 (ent 271 [vR 165, vI v1, vI v2]) [] M res := by
  obtain ⟨e9, rfl⟩ : ∃ e9, d = e9 + 1 := ⟨d - 1, by omega⟩
  unfold mo_standsIn at hf
  show EX Z _ 271 0 [vR 165, vI v1, vI v2, vU, vU] [] M res
  refine ex_pu (ls' := [vR 165, vI v1, vI v2, vU, vU]) (st' := [vI 1]) (dg dc271 0 rfl) rfl rfl ?_
  refine ex_pu (ls' := [vR 165, vI v1, vI v2, vI 1, vU]) (st' := []) (dg dc271 1 rfl) rfl rfl ?_
  refine ex_pu (ls' := [vR 165, vI v1, vI v2, vI 1, vU]) (st' := [vI 0]) (dg dc271 2 rfl) rfl rfl ?_
  refine ex_pu (ls' := [vR 165, vI v1, vI v2, vI 1, vI 0]) (st' := []) (dg dc271 3 rfl) rfl rfl ?_
  refine mo_standsIn_L5_ok hd  ?_ FU 1 0 M hf
  · intro v3_16 M_17 j4_18 hf
    refine ex_pu (ls' := [vR 165, vI v1, vI v2, vI v3_16, j4_18]) (st' := [vI 0]) (dg dc271 36 rfl) rfl rfl ?_
    refine ex_pu (ls' := [vR 165, vI v1, vI v2, vI v3_16, vI 0]) (st' := []) (dg dc271 37 rfl) rfl rfl ?_
    refine mo_standsIn_L74_ok hd  ?_ FU v3_16 0 M_17 hf
    · intro v3_31 M_32 j0_33 j1_34 j2_35 j4_36 hf
      refine ex_pu (ls' := [j0_33, j1_34, j2_35, vI v3_31, j4_36]) (st' := [vI v3_31]) (dg dc271 65 rfl) rfl rfl ?_
      exact ex_irb (dg dc271 66 rfl) rfl hf
-- GlassHillModel.stands
def il272 : List (Nat × Instr × Nat) := [(0, .aload_n 0, 1), (1, .iconst 0, 1), (2, .putfield 3, 3), (5, .aload_n 0, 1), (6, .aload_n 0, 1), (7, .iload_n 1, 1), (8, .invokevirtual 399, 3), (11, .iconst 1, 1), (12, .invokevirtual 274, 3), (15, .ifCond .eq 5, 3), (18, .iconst 0, 1), (19, .ireturn, 1), (20, .iconst 0, 1), (21, .istore_n 3, 1), (22, .iconst (-1), 1), (23, .istore 4, 2), (25, .iconst 0, 1), (26, .istore 5, 2), (28, .iload 5, 2), (30, .aload_n 0, 1), (31, .invokevirtual 84, 3), (34, .if_icmp .ge 77, 3), (37, .iload 5, 2), (39, .iload_n 1, 1), (40, .if_icmp .eq 65, 3), (43, .aload_n 0, 1), (44, .iload 5, 2), (46, .iconst 2, 1), (47, .invokevirtual 290, 3), (50, .iconst 3, 1), (51, .if_icmp .eq 54, 3), (54, .aload_n 0, 1), (55, .iload 5, 2), (57, .iload_n 1, 1), (58, .invokevirtual 456, 3), (61, .ifCond .ne 6, 3), (64, .goto 41, 3), (67, .iload_n 3, 1), (68, .iconst 1, 1), (69, .iload 5, 2), (71, .ishl, 1), (72, .ior, 1), (73, .istore_n 3, 1), (74, .iload 4, 2), (76, .ifCond .lt 20, 3), (79, .aload_n 0, 1), (80, .iload 5, 2), (82, .iconst 1, 1), (83, .invokevirtual 290, 3), (86, .aload_n 0, 1), (87, .iload 4, 2), (89, .iconst 1, 1), (90, .invokevirtual 290, 3), (93, .if_icmp .ge 8, 3), (96, .iload 5, 2), (98, .goto 5, 3), (101, .iload 4, 2), (103, .istore 4, 2), (105, .iinc 5 1, 3), (108, .goto (-80), 3), (111, .iload_n 2, 1), (112, .ifCond .eq 8, 3), (115, .iload 4, 2), (117, .goto 4, 3), (120, .iload_n 3, 1), (121, .ireturn, 1)]
theorem dc272 : dcs (mC 272) il272 := dc_of (by decide +kernel)
def mo_stands_L28  (v1 v2 : Int) (K1 : Int → Int → MM → OR) : Nat → Int → Int → Int → MM → OR
  | 0, _, _, _, _ => none
  | n + 1, v3, v4, v5, M => (bI (mo_things  M) fun z_11 M_10 => (bif cmpB .ge v5 z_11 then (K1 v3 v4 M_10) else (bif cmpB .eq v5 v1 then (mo_stands_L28 v1 v2 K1 n v3 v4 (v5 + 1) M_10) else (bI (mo_ofThing v5 2 M_10) fun z_14 M_13 => (bif cmpB .eq z_14 3 then (mo_stands_L28 v1 v2 K1 n v3 v4 (v5 + 1) M_13) else (bI (mo_standsIn v5 v1 M_13) fun z_17 M_16 => (bif cmpB .ne z_17 0 then (bif cmpB .lt v4 0 then (mo_stands_L28 v1 v2 K1 n (iOr v3 (iShl 1 v5)) v5 (v5 + 1) M_16) else (bI (mo_ofThing v5 1 M_16) fun z_20 M_19 => (bI (mo_ofThing v4 1 M_19) fun z_23 M_22 => (bif cmpB .ge z_20 z_23 then (mo_stands_L28 v1 v2 K1 n (iOr v3 (iShl 1 v5)) v4 (v5 + 1) M_22) else (mo_stands_L28 v1 v2 K1 n (iOr v3 (iShl 1 v5)) v5 (v5 + 1) M_22))))) else (mo_stands_L28 v1 v2 K1 n v3 v4 (v5 + 1) M_16))))))))
set_option maxRecDepth 4000 in
theorem mo_stands_L28_ok {Z : Nat × (Nat → Int)} {d : Nat} (hd : 3 ≤ d)  {v1 v2 : Int} {K1 : Int → Int → MM → OR} {res : AR × MM} (k1 : ∀ (x3 x4 : Int) (M : MM) (j0 j1 j5 : AV), K1 x3 x4 M = some res → EX Z d 272 111 [j0, j1, vI v2, vI x3, vI x4, j5] [] M res) : ∀ (n : Nat) (v3 v4 v5 : Int) (M : MM), mo_stands_L28 v1 v2 K1 n v3 v4 v5 M = some res → EX Z d 272 28 [vR 165, vI v1, vI v2, vI v3, vI v4, vI v5] [] M res := by
  obtain ⟨e9, rfl⟩ : ∃ e9, d = e9 + 1 := ⟨d - 1, by omega⟩
  intro n
  induction n with
  | zero =>
    intro v3 v4 v5 M hf
    unfold mo_stands_L28 at hf
    cases hf
  | succ n ih =>
    intro v3 v4 v5 M hf
    unfold mo_stands_L28 at hf
    refine ex_pu (ls' := [vR 165, vI v1, vI v2, vI v3, vI v4, vI v5]) (st' := [vI v5]) (dg dc272 18 rfl) rfl rfl ?_
    refine ex_pu (ls' := [vR 165, vI v1, vI v2, vI v3, vI v4, vI v5]) (st' := [vR 165, vI v5]) (dg dc272 19 rfl) rfl rfl ?_
    refine ex_cI (vs := [vR 165]) (st' := [vI v5]) (F := (mo_things  M)) (Or.inr (Or.inl ⟨rfl, (dg dc272 20 rfl)⟩)) rfl rfl (rk1 (LOC.st (Nat.le_of_ble_eq_true rfl) rfl) rfl) rfl (fun _ r9 => mo_things_ok (Z := Z) (d := e9) (by omega)  r9) hf (fun z_11 M_10 he_9 hf => ?_)
    refine ex_icmp (t := 111) (dg dc272 21 rfl) rfl hf (fun _ hf => ?_) (fun _ hf => ?_)
    · exact k1 v3 v4 M_10 _ _ _ hf
    · refine ex_pu (ls' := [vR 165, vI v1, vI v2, vI v3, vI v4, vI v5]) (st' := [vI v5]) (dg dc272 22 rfl) rfl rfl ?_
      refine ex_pu (ls' := [vR 165, vI v1, vI v2, vI v3, vI v4, vI v5]) (st' := [vI v1, vI v5]) (dg dc272 23 rfl) rfl rfl ?_
      refine ex_icmp (t := 105) (dg dc272 24 rfl) rfl hf (fun _ hf => ?_) (fun _ hf => ?_)
      · refine ex_pu (ls' := [vR 165, vI v1, vI v2, vI v3, vI v4, vI (v5 + 1)]) (st' := []) (dg dc272 58 rfl) rfl rfl ?_
        refine ex_goto (t := 28) (dg dc272 59 rfl) rfl rfl ?_
        exact ih v3 v4 (v5 + 1) M_10 hf
      · refine ex_pu (ls' := [vR 165, vI v1, vI v2, vI v3, vI v4, vI v5]) (st' := [vR 165]) (dg dc272 25 rfl) rfl rfl ?_
        refine ex_pu (ls' := [vR 165, vI v1, vI v2, vI v3, vI v4, vI v5]) (st' := [vI v5, vR 165]) (dg dc272 26 rfl) rfl rfl ?_
        refine ex_pu (ls' := [vR 165, vI v1, vI v2, vI v3, vI v4, vI v5]) (st' := [vI 2, vI v5, vR 165]) (dg dc272 27 rfl) rfl rfl ?_
        refine ex_cI (vs := [vR 165, vI v5, vI 2]) (st' := []) (F := (mo_ofThing v5 2 M_10)) (Or.inr (Or.inl ⟨rfl, (dg dc272 28 rfl)⟩)) rfl rfl (rk1 (LOC.st (Nat.le_of_ble_eq_true rfl) rfl) rfl) rfl (fun _ r9 => mo_ofThing_ok (Z := Z) (d := e9) (by omega)  r9) hf (fun z_14 M_13 he_12 hf => ?_)
        refine ex_pu (ls' := [vR 165, vI v1, vI v2, vI v3, vI v4, vI v5]) (st' := [vI 3, vI z_14]) (dg dc272 29 rfl) rfl rfl ?_
        refine ex_icmp (t := 105) (dg dc272 30 rfl) rfl hf (fun _ hf => ?_) (fun _ hf => ?_)
        · refine ex_pu (ls' := [vR 165, vI v1, vI v2, vI v3, vI v4, vI (v5 + 1)]) (st' := []) (dg dc272 58 rfl) rfl rfl ?_
          refine ex_goto (t := 28) (dg dc272 59 rfl) rfl rfl ?_
          exact ih v3 v4 (v5 + 1) M_13 hf
        · refine ex_pu (ls' := [vR 165, vI v1, vI v2, vI v3, vI v4, vI v5]) (st' := [vR 165]) (dg dc272 31 rfl) rfl rfl ?_
          refine ex_pu (ls' := [vR 165, vI v1, vI v2, vI v3, vI v4, vI v5]) (st' := [vI v5, vR 165]) (dg dc272 32 rfl) rfl rfl ?_
          refine ex_pu (ls' := [vR 165, vI v1, vI v2, vI v3, vI v4, vI v5]) (st' := [vI v1, vI v5, vR 165]) (dg dc272 33 rfl) rfl rfl ?_
          refine ex_cI (vs := [vR 165, vI v5, vI v1]) (st' := []) (F := (mo_standsIn v5 v1 M_13)) (Or.inr (Or.inl ⟨rfl, (dg dc272 34 rfl)⟩)) rfl rfl (rk1 (LOC.st (Nat.le_of_ble_eq_true rfl) rfl) rfl) rfl (fun _ r9 => mo_standsIn_ok (Z := Z) (d := e9) (by omega)  r9) hf (fun z_17 M_16 he_15 hf => ?_)
          refine ex_if (t := 67) (dg dc272 35 rfl) rfl hf (fun _ hf => ?_) (fun _ hf => ?_)
          · refine ex_pu (ls' := [vR 165, vI v1, vI v2, vI v3, vI v4, vI v5]) (st' := [vI v3]) (dg dc272 37 rfl) rfl rfl ?_
            refine ex_pu (ls' := [vR 165, vI v1, vI v2, vI v3, vI v4, vI v5]) (st' := [vI 1, vI v3]) (dg dc272 38 rfl) rfl rfl ?_
            refine ex_pu (ls' := [vR 165, vI v1, vI v2, vI v3, vI v4, vI v5]) (st' := [vI v5, vI 1, vI v3]) (dg dc272 39 rfl) rfl rfl ?_
            refine ex_pu (ls' := [vR 165, vI v1, vI v2, vI v3, vI v4, vI v5]) (st' := [vI (iShl 1 v5), vI v3]) (dg dc272 40 rfl) rfl rfl ?_
            refine ex_pu (ls' := [vR 165, vI v1, vI v2, vI v3, vI v4, vI v5]) (st' := [vI (iOr v3 (iShl 1 v5))]) (dg dc272 41 rfl) rfl rfl ?_
            refine ex_pu (ls' := [vR 165, vI v1, vI v2, vI (iOr v3 (iShl 1 v5)), vI v4, vI v5]) (st' := []) (dg dc272 42 rfl) rfl rfl ?_
            refine ex_pu (ls' := [vR 165, vI v1, vI v2, vI (iOr v3 (iShl 1 v5)), vI v4, vI v5]) (st' := [vI v4]) (dg dc272 43 rfl) rfl rfl ?_
            refine ex_if (t := 96) (dg dc272 44 rfl) rfl hf (fun _ hf => ?_) (fun _ hf => ?_)
            · refine ex_pu (ls' := [vR 165, vI v1, vI v2, vI (iOr v3 (iShl 1 v5)), vI v4, vI v5]) (st' := [vI v5]) (dg dc272 54 rfl) rfl rfl ?_
              refine ex_goto (t := 103) (dg dc272 55 rfl) rfl rfl ?_
              refine ex_pu (ls' := [vR 165, vI v1, vI v2, vI (iOr v3 (iShl 1 v5)), vI v5, vI v5]) (st' := []) (dg dc272 57 rfl) rfl rfl ?_
              refine ex_pu (ls' := [vR 165, vI v1, vI v2, vI (iOr v3 (iShl 1 v5)), vI v5, vI (v5 + 1)]) (st' := []) (dg dc272 58 rfl) rfl rfl ?_
              refine ex_goto (t := 28) (dg dc272 59 rfl) rfl rfl ?_
              exact ih (iOr v3 (iShl 1 v5)) v5 (v5 + 1) M_16 hf
            · refine ex_pu (ls' := [vR 165, vI v1, vI v2, vI (iOr v3 (iShl 1 v5)), vI v4, vI v5]) (st' := [vR 165]) (dg dc272 45 rfl) rfl rfl ?_
              refine ex_pu (ls' := [vR 165, vI v1, vI v2, vI (iOr v3 (iShl 1 v5)), vI v4, vI v5]) (st' := [vI v5, vR 165]) (dg dc272 46 rfl) rfl rfl ?_
              refine ex_pu (ls' := [vR 165, vI v1, vI v2, vI (iOr v3 (iShl 1 v5)), vI v4, vI v5]) (st' := [vI 1, vI v5, vR 165]) (dg dc272 47 rfl) rfl rfl ?_
              refine ex_cI (vs := [vR 165, vI v5, vI 1]) (st' := []) (F := (mo_ofThing v5 1 M_16)) (Or.inr (Or.inl ⟨rfl, (dg dc272 48 rfl)⟩)) rfl rfl (rk1 (LOC.st (Nat.le_of_ble_eq_true rfl) rfl) rfl) rfl (fun _ r9 => mo_ofThing_ok (Z := Z) (d := e9) (by omega)  r9) hf (fun z_20 M_19 he_18 hf => ?_)
              refine ex_pu (ls' := [vR 165, vI v1, vI v2, vI (iOr v3 (iShl 1 v5)), vI v4, vI v5]) (st' := [vR 165, vI z_20]) (dg dc272 49 rfl) rfl rfl ?_
              refine ex_pu (ls' := [vR 165, vI v1, vI v2, vI (iOr v3 (iShl 1 v5)), vI v4, vI v5]) (st' := [vI v4, vR 165, vI z_20]) (dg dc272 50 rfl) rfl rfl ?_
              refine ex_pu (ls' := [vR 165, vI v1, vI v2, vI (iOr v3 (iShl 1 v5)), vI v4, vI v5]) (st' := [vI 1, vI v4, vR 165, vI z_20]) (dg dc272 51 rfl) rfl rfl ?_
              refine ex_cI (vs := [vR 165, vI v4, vI 1]) (st' := [vI z_20]) (F := (mo_ofThing v4 1 M_19)) (Or.inr (Or.inl ⟨rfl, (dg dc272 52 rfl)⟩)) rfl rfl (rk1 (LOC.st (Nat.le_of_ble_eq_true rfl) rfl) rfl) rfl (fun _ r9 => mo_ofThing_ok (Z := Z) (d := e9) (by omega)  r9) hf (fun z_23 M_22 he_21 hf => ?_)
              refine ex_icmp (t := 101) (dg dc272 53 rfl) rfl hf (fun _ hf => ?_) (fun _ hf => ?_)
              · refine ex_pu (ls' := [vR 165, vI v1, vI v2, vI (iOr v3 (iShl 1 v5)), vI v4, vI v5]) (st' := [vI v4]) (dg dc272 56 rfl) rfl rfl ?_
                refine ex_pu (ls' := [vR 165, vI v1, vI v2, vI (iOr v3 (iShl 1 v5)), vI v4, vI v5]) (st' := []) (dg dc272 57 rfl) rfl rfl ?_
                refine ex_pu (ls' := [vR 165, vI v1, vI v2, vI (iOr v3 (iShl 1 v5)), vI v4, vI (v5 + 1)]) (st' := []) (dg dc272 58 rfl) rfl rfl ?_
                refine ex_goto (t := 28) (dg dc272 59 rfl) rfl rfl ?_
                exact ih (iOr v3 (iShl 1 v5)) v4 (v5 + 1) M_22 hf
              · refine ex_pu (ls' := [vR 165, vI v1, vI v2, vI (iOr v3 (iShl 1 v5)), vI v4, vI v5]) (st' := [vI v5]) (dg dc272 54 rfl) rfl rfl ?_
                refine ex_goto (t := 103) (dg dc272 55 rfl) rfl rfl ?_
                refine ex_pu (ls' := [vR 165, vI v1, vI v2, vI (iOr v3 (iShl 1 v5)), vI v5, vI v5]) (st' := []) (dg dc272 57 rfl) rfl rfl ?_
                refine ex_pu (ls' := [vR 165, vI v1, vI v2, vI (iOr v3 (iShl 1 v5)), vI v5, vI (v5 + 1)]) (st' := []) (dg dc272 58 rfl) rfl rfl ?_
                refine ex_goto (t := 28) (dg dc272 59 rfl) rfl rfl ?_
                exact ih (iOr v3 (iShl 1 v5)) v5 (v5 + 1) M_22 hf
          · refine ex_goto (t := 105) (dg dc272 36 rfl) rfl rfl ?_
            refine ex_pu (ls' := [vR 165, vI v1, vI v2, vI v3, vI v4, vI (v5 + 1)]) (st' := []) (dg dc272 58 rfl) rfl rfl ?_
            refine ex_goto (t := 28) (dg dc272 59 rfl) rfl rfl ?_
            exact ih v3 v4 (v5 + 1) M_16 hf
def mo_stands (v1 : Int) (v2 : Int) (M : MM) : OR :=
  (sM (mU M 165 0 0) fun M_1 => (bI (mo_noThing v1 M_1) fun z_5 M_4 => (bI (mo_throwsIf z_5 1 M_4) fun z_8 M_7 => (bif cmpB .eq z_8 0 then (mo_stands_L28 v1 v2 (fun v3_24 v4_25 M_26 => (bif cmpB .eq v2 0 then some (rI v3_24, M_26) else some (rI v4_25, M_26))) FU 0 (-1) 0 M_7) else some (rI 0, M_7)))))
set_option maxRecDepth 4000 in
theorem mo_stands_ok {Z : Nat × (Nat → Int)} {d : Nat} (hd : 3 ≤ d) {M : MM}  {v1 v2 : Int} {res : AR × MM} (hf : mo_stands v1 v2 M = some res) : EX Z d 272 0 (ent 272 [vR 165, vI v1, vI v2]) [] M res := by
  obtain ⟨e9, rfl⟩ : ∃ e9, d = e9 + 1 := ⟨d - 1, by omega⟩
  unfold mo_stands at hf
  show EX Z _ 272 0 [vR 165, vI v1, vI v2, vU, vU, vU] [] M res
  refine ex_pu (ls' := [vR 165, vI v1, vI v2, vU, vU, vU]) (st' := [vR 165]) (dg dc272 0 rfl) rfl rfl ?_
  refine ex_pu (ls' := [vR 165, vI v1, vI v2, vU, vU, vU]) (st' := [vI 0, vR 165]) (dg dc272 1 rfl) rfl rfl ?_
  refine ex_putI (dg dc272 2 rfl) rfl (LOC.st (Nat.le_of_ble_eq_true rfl) rfl) rfl rfl rfl ?_
  refine ex_gen hf (fun M_1 hM_2 hf => ?_)
  refine ex_pu (ls' := [vR 165, vI v1, vI v2, vU, vU, vU]) (st' := [vR 165]) (dg dc272 3 rfl) rfl rfl ?_
  refine ex_pu (ls' := [vR 165, vI v1, vI v2, vU, vU, vU]) (st' := [vR 165, vR 165]) (dg dc272 4 rfl) rfl rfl ?_
  refine ex_pu (ls' := [vR 165, vI v1, vI v2, vU, vU, vU]) (st' := [vI v1, vR 165, vR 165]) (dg dc272 5 rfl) rfl rfl ?_
  refine ex_cI (vs := [vR 165, vI v1]) (st' := [vR 165]) (F := (mo_noThing v1 M_1)) (Or.inr (Or.inl ⟨rfl, (dg dc272 6 rfl)⟩)) rfl rfl (rk1 (LOC.st (Nat.le_of_ble_eq_true rfl) rfl) rfl) rfl (fun _ r9 => mo_noThing_ok (Z := Z) (d := e9) (by omega)  r9) hf (fun z_5 M_4 he_3 hf => ?_)
  refine ex_pu (ls' := [vR 165, vI v1, vI v2, vU, vU, vU]) (st' := [vI 1, vI z_5, vR 165]) (dg dc272 7 rfl) rfl rfl ?_
  refine ex_cI (vs := [vR 165, vI z_5, vI 1]) (st' := []) (F := (mo_throwsIf z_5 1 M_4)) (Or.inr (Or.inl ⟨rfl, (dg dc272 8 rfl)⟩)) rfl rfl (rk1 (LOC.st (Nat.le_of_ble_eq_true rfl) rfl) rfl) rfl (fun _ r9 => mo_throwsIf_ok (Z := Z) (d := e9) (by omega)  r9) hf (fun z_8 M_7 he_6 hf => ?_)
  refine ex_if (t := 20) (dg dc272 9 rfl) rfl hf (fun _ hf => ?_) (fun _ hf => ?_)
  · refine ex_pu (ls' := [vR 165, vI v1, vI v2, vU, vU, vU]) (st' := [vI 0]) (dg dc272 12 rfl) rfl rfl ?_
    refine ex_pu (ls' := [vR 165, vI v1, vI v2, vI 0, vU, vU]) (st' := []) (dg dc272 13 rfl) rfl rfl ?_
    refine ex_pu (ls' := [vR 165, vI v1, vI v2, vI 0, vU, vU]) (st' := [vI (-1)]) (dg dc272 14 rfl) rfl rfl ?_
    refine ex_pu (ls' := [vR 165, vI v1, vI v2, vI 0, vI (-1), vU]) (st' := []) (dg dc272 15 rfl) rfl rfl ?_
    refine ex_pu (ls' := [vR 165, vI v1, vI v2, vI 0, vI (-1), vU]) (st' := [vI 0]) (dg dc272 16 rfl) rfl rfl ?_
    refine ex_pu (ls' := [vR 165, vI v1, vI v2, vI 0, vI (-1), vI 0]) (st' := []) (dg dc272 17 rfl) rfl rfl ?_
    refine mo_stands_L28_ok hd  ?_ FU 0 (-1) 0 M_7 hf
    · intro v3_24 v4_25 M_26 j0_27 j1_28 j5_29 hf
      refine ex_pu (ls' := [j0_27, j1_28, vI v2, vI v3_24, vI v4_25, j5_29]) (st' := [vI v2]) (dg dc272 60 rfl) rfl rfl ?_
      refine ex_if (t := 120) (dg dc272 61 rfl) rfl hf (fun _ hf => ?_) (fun _ hf => ?_)
      · refine ex_pu (ls' := [j0_27, j1_28, vI v2, vI v3_24, vI v4_25, j5_29]) (st' := [vI v3_24]) (dg dc272 64 rfl) rfl rfl ?_
        exact ex_ire (dg dc272 65 rfl) rfl hf
      · refine ex_pu (ls' := [j0_27, j1_28, vI v2, vI v3_24, vI v4_25, j5_29]) (st' := [vI v4_25]) (dg dc272 62 rfl) rfl rfl ?_
        refine ex_goto (t := 121) (dg dc272 63 rfl) rfl rfl ?_
        exact ex_ire (dg dc272 65 rfl) rfl hf
  · refine ex_pu (ls' := [vR 165, vI v1, vI v2, vU, vU, vU]) (st' := [vI 0]) (dg dc272 10 rfl) rfl rfl ?_
    exact ex_ire (dg dc272 11 rfl) rfl hf
