/-! ===== METHODS 1 ===== -/
-- GlassHillModel.has
def il164 : List (Nat × Instr × Nat) := [(0, .iload_n 0, 1), (1, .iload_n 1, 1), (2, .ishr, 1), (3, .iconst 1, 1), (4, .iand, 1), (5, .iconst 1, 1), (6, .if_icmp .ne 7, 3), (9, .iconst 1, 1), (10, .goto 4, 3), (13, .iconst 0, 1), (14, .ireturn, 1)]
theorem dc164 : dcs (mC 164) il164 := dc_of (by decide +kernel)
def mo_has (v0 : Int) (v1 : Int) (M : MM) : OR :=
  (bif cmpB .ne (iAnd (iShr v0 v1) 1) 1 then some (rI 0, M) else some (rI 1, M))
set_option maxRecDepth 4000 in
theorem mo_has_ok {Z : Nat × (Nat → Int)} {d : Nat} (hd : 0 ≤ d) {M : MM}  {v0 v1 : Int} {res : AR × MM} (hf : mo_has v0 v1 M = some res) : EX Z d 164 0 (ent 164 [vI v0, vI v1]) [] M res := by
  unfold mo_has at hf
  show EX Z _ 164 0 [vI v0, vI v1] [] M res
  refine ex_pu (ls' := [vI v0, vI v1]) (st' := [vI v0]) (dg dc164 0 rfl) rfl rfl ?_
  refine ex_pu (ls' := [vI v0, vI v1]) (st' := [vI v1, vI v0]) (dg dc164 1 rfl) rfl rfl ?_
  refine ex_pu (ls' := [vI v0, vI v1]) (st' := [vI (iShr v0 v1)]) (dg dc164 2 rfl) rfl rfl ?_
  refine ex_pu (ls' := [vI v0, vI v1]) (st' := [vI 1, vI (iShr v0 v1)]) (dg dc164 3 rfl) rfl rfl ?_
  refine ex_pu (ls' := [vI v0, vI v1]) (st' := [vI (iAnd (iShr v0 v1) 1)]) (dg dc164 4 rfl) rfl rfl ?_
  refine ex_pu (ls' := [vI v0, vI v1]) (st' := [vI 1, vI (iAnd (iShr v0 v1) 1)]) (dg dc164 5 rfl) rfl rfl ?_
  refine ex_icmp (t := 13) (dg dc164 6 rfl) rfl hf (fun _ hf => ?_) (fun _ hf => ?_)
  · refine ex_pu (ls' := [vI v0, vI v1]) (st' := [vI 0]) (dg dc164 9 rfl) rfl rfl ?_
    exact ex_ire (dg dc164 10 rfl) rfl hf
  · refine ex_pu (ls' := [vI v0, vI v1]) (st' := [vI 1]) (dg dc164 7 rfl) rfl rfl ?_
    refine ex_goto (t := 14) (dg dc164 8 rfl) rfl rfl ?_
    exact ex_ire (dg dc164 10 rfl) rfl hf
-- GlassHillModel.image
def il166 : List (Nat × Instr × Nat) := [(0, .aload_n 0, 1), (1, .iconst 0, 1), (2, .putfield 3, 3), (5, .iconst 0, 1), (6, .istore_n 1, 1), (7, .iload_n 1, 1), (8, .sipush 1115, 3), (11, .if_icmp .ge 21, 3), (14, .aload_n 0, 1), (15, .getfield 17, 3), (18, .iload_n 1, 1), (19, .aload_n 0, 1), (20, .getfield 13, 3), (23, .iload_n 1, 1), (24, .iaload, 1), (25, .iastore, 1), (26, .iinc 1 1, 3), (29, .goto (-22), 3), (32, .aload_n 0, 1), (33, .iconst 1, 1), (34, .putfield 65, 3), (37, .return_, 1)]
theorem dc166 : dcs (mC 166) il166 := dc_of (by decide +kernel)
def mo_image_L7  (K1 : MM → OR) : Nat → Int → MM → OR
  | 0, _, _ => none
  | n + 1, v1, M => (bif cmpB .ge v1 1115 then (K1  M) else (bif inB v1 1964 then (bif inB v1 1115 then (sM (mU M 167 (v1).toNat (M 166 (v1).toNat)) fun M_3 => (mo_image_L7  K1 n (v1 + 1) M_3)) else none) else none))
set_option maxRecDepth 4000 in
theorem mo_image_L7_ok {Z : Nat × (Nat → Int)} {d : Nat} (hd : 0 ≤ d)  {K1 : MM → OR} {res : AR × MM} (k1 : ∀ (M : MM) (j1 : AV), K1  M = some res → EX Z d 166 32 [vR 165, j1] [] M res) : ∀ (n : Nat) (v1 : Int) (M : MM), mo_image_L7  K1 n v1 M = some res → EX Z d 166 7 [vR 165, vI v1] [] M res := by
  intro n
  induction n with
  | zero =>
    intro v1 M hf
    unfold mo_image_L7 at hf
    cases hf
  | succ n ih =>
    intro v1 M hf
    unfold mo_image_L7 at hf
    refine ex_pu (ls' := [vR 165, vI v1]) (st' := [vI v1]) (dg dc166 5 rfl) rfl rfl ?_
    refine ex_pu (ls' := [vR 165, vI v1]) (st' := [vI 1115, vI v1]) (dg dc166 6 rfl) rfl rfl ?_
    refine ex_icmp (t := 32) (dg dc166 7 rfl) rfl hf (fun _ hf => ?_) (fun _ hf => ?_)
    · exact k1  M _ hf
    · refine ex_pu (ls' := [vR 165, vI v1]) (st' := [vR 165]) (dg dc166 8 rfl) rfl rfl ?_
      refine ex_getO (dg dc166 9 rfl) rfl (LOC.st (Nat.le_of_ble_eq_true rfl) rfl) rfl ?_
      show EX Z _ 166 _ [vR 165, vI v1] [vR 167] _ _
      refine ex_pu (ls' := [vR 165, vI v1]) (st' := [vI v1, vR 167]) (dg dc166 10 rfl) rfl rfl ?_
      refine ex_pu (ls' := [vR 165, vI v1]) (st' := [vR 165, vI v1, vR 167]) (dg dc166 11 rfl) rfl rfl ?_
      refine ex_getO (dg dc166 12 rfl) rfl (LOC.st (Nat.le_of_ble_eq_true rfl) rfl) rfl ?_
      show EX Z _ 166 _ [vR 165, vI v1] [vR 166, vI v1, vR 167] _ _
      refine ex_pu (ls' := [vR 165, vI v1]) (st' := [vI v1, vR 166, vI v1, vR 167]) (dg dc166 13 rfl) rfl rfl ?_
      refine ex_iald (dg dc166 14 rfl) (LOC.st (Nat.le_of_ble_eq_true rfl) rfl) rfl hf (fun _ hf => ?_)
      refine ex_iast (dg dc166 15 rfl) (LOC.st (Nat.le_of_ble_eq_true rfl) rfl) rfl rfl hf (fun _ hf => ?_)
      refine ex_gen hf (fun M_3 hM_4 hf => ?_)
      refine ex_pu (ls' := [vR 165, vI (v1 + 1)]) (st' := []) (dg dc166 16 rfl) rfl rfl ?_
      refine ex_goto (t := 7) (dg dc166 17 rfl) rfl rfl ?_
      exact ih (v1 + 1) M_3 hf
def mo_image  (M : MM) : OR :=
  (sM (mU M 165 0 0) fun M_1 => (mo_image_L7  (fun M_5 => (sM (mU M_5 165 5 1) fun M_7 => some (rV, M_7))) FU 0 M_1))
set_option maxRecDepth 4000 in
theorem mo_image_ok {Z : Nat × (Nat → Int)} {d : Nat} (hd : 0 ≤ d) {M : MM}  {res : AR × MM} (hf : mo_image  M = some res) : EX Z d 166 0 (ent 166 [vR 165]) [] M res := by
  unfold mo_image at hf
  show EX Z _ 166 0 [vR 165, vU] [] M res
  refine ex_pu (ls' := [vR 165, vU]) (st' := [vR 165]) (dg dc166 0 rfl) rfl rfl ?_
  refine ex_pu (ls' := [vR 165, vU]) (st' := [vI 0, vR 165]) (dg dc166 1 rfl) rfl rfl ?_
  refine ex_putI (dg dc166 2 rfl) rfl (LOC.st (Nat.le_of_ble_eq_true rfl) rfl) rfl rfl rfl ?_
  refine ex_gen hf (fun M_1 hM_2 hf => ?_)
  refine ex_pu (ls' := [vR 165, vU]) (st' := [vI 0]) (dg dc166 3 rfl) rfl rfl ?_
  refine ex_pu (ls' := [vR 165, vI 0]) (st' := []) (dg dc166 4 rfl) rfl rfl ?_
  refine mo_image_L7_ok hd  ?_ FU 0 M_1 hf
  · intro M_5 j1_6 hf
    refine ex_pu (ls' := [vR 165, j1_6]) (st' := [vR 165]) (dg dc166 18 rfl) rfl rfl ?_
    refine ex_pu (ls' := [vR 165, j1_6]) (st' := [vI 1, vR 165]) (dg dc166 19 rfl) rfl rfl ?_
    refine ex_putI (dg dc166 20 rfl) rfl (LOC.st (Nat.le_of_ble_eq_true rfl) rfl) rfl rfl rfl ?_
    refine ex_gen hf (fun M_7 hM_8 hf => ?_)
    exact ex_vre (dg dc166 21 rfl) rfl hf
-- GlassHillModel.back
def il167 : List (Nat × Instr × Nat) := [(0, .aload_n 0, 1), (1, .iconst 0, 1), (2, .putfield 3, 3), (5, .aload_n 0, 1), (6, .getfield 65, 3), (9, .ifCond .ne 5, 3), (12, .iconst 0, 1), (13, .ireturn, 1), (14, .iconst 0, 1), (15, .istore_n 1, 1), (16, .iload_n 1, 1), (17, .sipush 1115, 3), (20, .if_icmp .ge 21, 3), (23, .aload_n 0, 1), (24, .getfield 13, 3), (27, .iload_n 1, 1), (28, .aload_n 0, 1), (29, .getfield 17, 3), (32, .iload_n 1, 1), (33, .iaload, 1), (34, .iastore, 1), (35, .iinc 1 1, 3), (38, .goto (-22), 3), (41, .aload_n 0, 1), (42, .iconst 0, 1), (43, .putfield 69, 3), (46, .iconst 1, 1), (47, .ireturn, 1)]
theorem dc167 : dcs (mC 167) il167 := dc_of (by decide +kernel)
def mo_back_L16  (K1 : MM → OR) : Nat → Int → MM → OR
  | 0, _, _ => none
  | n + 1, v1, M => (bif cmpB .ge v1 1115 then (K1  M) else (bif inB v1 1115 then (bif inB v1 1964 then (sM (mU M 166 (v1).toNat (M 167 (v1).toNat)) fun M_3 => (mo_back_L16  K1 n (v1 + 1) M_3)) else none) else none))
set_option maxRecDepth 4000 in
theorem mo_back_L16_ok {Z : Nat × (Nat → Int)} {d : Nat} (hd : 0 ≤ d)  {K1 : MM → OR} {res : AR × MM} (k1 : ∀ (M : MM) (j1 : AV), K1  M = some res → EX Z d 167 41 [vR 165, j1] [] M res) : ∀ (n : Nat) (v1 : Int) (M : MM), mo_back_L16  K1 n v1 M = some res → EX Z d 167 16 [vR 165, vI v1] [] M res := by
  intro n
  induction n with
  | zero =>
    intro v1 M hf
    unfold mo_back_L16 at hf
    cases hf
  | succ n ih =>
    intro v1 M hf
    unfold mo_back_L16 at hf
    refine ex_pu (ls' := [vR 165, vI v1]) (st' := [vI v1]) (dg dc167 10 rfl) rfl rfl ?_
    refine ex_pu (ls' := [vR 165, vI v1]) (st' := [vI 1115, vI v1]) (dg dc167 11 rfl) rfl rfl ?_
    refine ex_icmp (t := 41) (dg dc167 12 rfl) rfl hf (fun _ hf => ?_) (fun _ hf => ?_)
    · exact k1  M _ hf
    · refine ex_pu (ls' := [vR 165, vI v1]) (st' := [vR 165]) (dg dc167 13 rfl) rfl rfl ?_
      refine ex_getO (dg dc167 14 rfl) rfl (LOC.st (Nat.le_of_ble_eq_true rfl) rfl) rfl ?_
      show EX Z _ 167 _ [vR 165, vI v1] [vR 166] _ _
      refine ex_pu (ls' := [vR 165, vI v1]) (st' := [vI v1, vR 166]) (dg dc167 15 rfl) rfl rfl ?_
      refine ex_pu (ls' := [vR 165, vI v1]) (st' := [vR 165, vI v1, vR 166]) (dg dc167 16 rfl) rfl rfl ?_
      refine ex_getO (dg dc167 17 rfl) rfl (LOC.st (Nat.le_of_ble_eq_true rfl) rfl) rfl ?_
      show EX Z _ 167 _ [vR 165, vI v1] [vR 167, vI v1, vR 166] _ _
      refine ex_pu (ls' := [vR 165, vI v1]) (st' := [vI v1, vR 167, vI v1, vR 166]) (dg dc167 18 rfl) rfl rfl ?_
      refine ex_iald (dg dc167 19 rfl) (LOC.st (Nat.le_of_ble_eq_true rfl) rfl) rfl hf (fun _ hf => ?_)
      refine ex_iast (dg dc167 20 rfl) (LOC.st (Nat.le_of_ble_eq_true rfl) rfl) rfl rfl hf (fun _ hf => ?_)
      refine ex_gen hf (fun M_3 hM_4 hf => ?_)
      refine ex_pu (ls' := [vR 165, vI (v1 + 1)]) (st' := []) (dg dc167 21 rfl) rfl rfl ?_
      refine ex_goto (t := 16) (dg dc167 22 rfl) rfl rfl ?_
      exact ih (v1 + 1) M_3 hf
def mo_back  (M : MM) : OR :=
  (sM (mU M 165 0 0) fun M_1 => (bif cmpB .ne (M_1 165 5) 0 then (mo_back_L16  (fun M_5 => (sM (mU M_5 165 6 0) fun M_7 => some (rI 1, M_7))) FU 0 M_1) else some (rI 0, M_1)))
set_option maxRecDepth 4000 in
theorem mo_back_ok {Z : Nat × (Nat → Int)} {d : Nat} (hd : 0 ≤ d) {M : MM}  {res : AR × MM} (hf : mo_back  M = some res) : EX Z d 167 0 (ent 167 [vR 165]) [] M res := by
  unfold mo_back at hf
  show EX Z _ 167 0 [vR 165, vU] [] M res
  refine ex_pu (ls' := [vR 165, vU]) (st' := [vR 165]) (dg dc167 0 rfl) rfl rfl ?_
  refine ex_pu (ls' := [vR 165, vU]) (st' := [vI 0, vR 165]) (dg dc167 1 rfl) rfl rfl ?_
  refine ex_putI (dg dc167 2 rfl) rfl (LOC.st (Nat.le_of_ble_eq_true rfl) rfl) rfl rfl rfl ?_
  refine ex_gen hf (fun M_1 hM_2 hf => ?_)
  refine ex_pu (ls' := [vR 165, vU]) (st' := [vR 165]) (dg dc167 3 rfl) rfl rfl ?_
  refine ex_getI (dg dc167 4 rfl) rfl (LOC.st (Nat.le_of_ble_eq_true rfl) rfl) rfl ?_
  refine ex_if (t := 14) (dg dc167 5 rfl) rfl hf (fun _ hf => ?_) (fun _ hf => ?_)
  · refine ex_pu (ls' := [vR 165, vU]) (st' := [vI 0]) (dg dc167 8 rfl) rfl rfl ?_
    refine ex_pu (ls' := [vR 165, vI 0]) (st' := []) (dg dc167 9 rfl) rfl rfl ?_
    refine mo_back_L16_ok hd  ?_ FU 0 M_1 hf
    · intro M_5 j1_6 hf
      refine ex_pu (ls' := [vR 165, j1_6]) (st' := [vR 165]) (dg dc167 23 rfl) rfl rfl ?_
      refine ex_pu (ls' := [vR 165, j1_6]) (st' := [vI 0, vR 165]) (dg dc167 24 rfl) rfl rfl ?_
      refine ex_putI (dg dc167 25 rfl) rfl (LOC.st (Nat.le_of_ble_eq_true rfl) rfl) rfl rfl rfl ?_
      refine ex_gen hf (fun M_7 hM_8 hf => ?_)
      refine ex_pu (ls' := [vR 165, j1_6]) (st' := [vI 1]) (dg dc167 26 rfl) rfl rfl ?_
      exact ex_ire (dg dc167 27 rfl) rfl hf
  · refine ex_pu (ls' := [vR 165, vU]) (st' := [vI 0]) (dg dc167 6 rfl) rfl rfl ?_
    exact ex_ire (dg dc167 7 rfl) rfl hf
-- GlassHillModel.remembers
def il168 : List (Nat × Instr × Nat) := [(0, .aload_n 0, 1), (1, .getfield 69, 3), (4, .bipush 12, 2), (6, .if_icmp .ne 37, 3), (9, .iconst 0, 1), (10, .istore_n 1, 1), (11, .iload_n 1, 1), (12, .sipush 2926, 3), (15, .if_icmp .ge 25, 3), (18, .aload_n 0, 1), (19, .getfield 23, 3), (22, .iload_n 1, 1), (23, .aload_n 0, 1), (24, .getfield 23, 3), (27, .iload_n 1, 1), (28, .sipush 266, 3), (31, .iadd, 1), (32, .iaload, 1), (33, .iastore, 1), (34, .iinc 1 1, 3), (37, .goto (-26), 3), (40, .goto 13, 3), (43, .aload_n 0, 1), (44, .dup, 1), (45, .getfield 69, 3), (48, .iconst 1, 1), (49, .iadd, 1), (50, .putfield 69, 3), (53, .iconst 0, 1), (54, .istore_n 1, 1), (55, .iload_n 1, 1), (56, .sipush 266, 3), (59, .if_icmp .ge 32, 3), (62, .aload_n 0, 1), (63, .getfield 23, 3), (66, .sipush 266, 3), (69, .aload_n 0, 1), (70, .getfield 69, 3), (73, .iconst 1, 1), (74, .isub, 1), (75, .imul, 1), (76, .iload_n 1, 1), (77, .iadd, 1), (78, .aload_n 0, 1), (79, .getfield 13, 3), (82, .iload_n 1, 1), (83, .iaload, 1), (84, .iastore, 1), (85, .iinc 1 1, 3), (88, .goto (-33), 3), (91, .return_, 1)]
theorem dc168 : dcs (mC 168) il168 := dc_of (by decide +kernel)
def mo_remembers_L55  (K1 : MM → OR) : Nat → Int → MM → OR
  | 0, _, _ => none
  | n + 1, v1, M => (bif cmpB .ge v1 266 then (K1  M) else (bif inB v1 1964 then (bif inB ((266 * ((M 165 6) - 1)) + v1) 3192 then (sM (mU M 169 (((266 * ((M 165 6) - 1)) + v1)).toNat (M 166 (v1).toNat)) fun M_3 => (mo_remembers_L55  K1 n (v1 + 1) M_3)) else none) else none))
set_option maxRecDepth 4000 in
theorem mo_remembers_L55_ok {Z : Nat × (Nat → Int)} {d : Nat} (hd : 0 ≤ d)  {K1 : MM → OR} {res : AR × MM} (k1 : ∀ (M : MM) (j0 j1 : AV), K1  M = some res → EX Z d 168 91 [j0, j1] [] M res) : ∀ (n : Nat) (v1 : Int) (M : MM), mo_remembers_L55  K1 n v1 M = some res → EX Z d 168 55 [vR 165, vI v1] [] M res := by
  intro n
  induction n with
  | zero =>
    intro v1 M hf
    unfold mo_remembers_L55 at hf
    cases hf
  | succ n ih =>
    intro v1 M hf
    unfold mo_remembers_L55 at hf
    refine ex_pu (ls' := [vR 165, vI v1]) (st' := [vI v1]) (dg dc168 30 rfl) rfl rfl ?_
    refine ex_pu (ls' := [vR 165, vI v1]) (st' := [vI 266, vI v1]) (dg dc168 31 rfl) rfl rfl ?_
    refine ex_icmp (t := 91) (dg dc168 32 rfl) rfl hf (fun _ hf => ?_) (fun _ hf => ?_)
    · exact k1  M _ _ hf
    · refine ex_pu (ls' := [vR 165, vI v1]) (st' := [vR 165]) (dg dc168 33 rfl) rfl rfl ?_
      refine ex_getO (dg dc168 34 rfl) rfl (LOC.st (Nat.le_of_ble_eq_true rfl) rfl) rfl ?_
      show EX Z _ 168 _ [vR 165, vI v1] [vR 169] _ _
      refine ex_pu (ls' := [vR 165, vI v1]) (st' := [vI 266, vR 169]) (dg dc168 35 rfl) rfl rfl ?_
      refine ex_pu (ls' := [vR 165, vI v1]) (st' := [vR 165, vI 266, vR 169]) (dg dc168 36 rfl) rfl rfl ?_
      refine ex_getI (dg dc168 37 rfl) rfl (LOC.st (Nat.le_of_ble_eq_true rfl) rfl) rfl ?_
      refine ex_pu (ls' := [vR 165, vI v1]) (st' := [vI 1, vI (M 165 6), vI 266, vR 169]) (dg dc168 38 rfl) rfl rfl ?_
      refine ex_pu (ls' := [vR 165, vI v1]) (st' := [vI ((M 165 6) - 1), vI 266, vR 169]) (dg dc168 39 rfl) rfl rfl ?_
      refine ex_pu (ls' := [vR 165, vI v1]) (st' := [vI (266 * ((M 165 6) - 1)), vR 169]) (dg dc168 40 rfl) rfl rfl ?_
      refine ex_pu (ls' := [vR 165, vI v1]) (st' := [vI v1, vI (266 * ((M 165 6) - 1)), vR 169]) (dg dc168 41 rfl) rfl rfl ?_
      refine ex_pu (ls' := [vR 165, vI v1]) (st' := [vI ((266 * ((M 165 6) - 1)) + v1), vR 169]) (dg dc168 42 rfl) rfl rfl ?_
      refine ex_pu (ls' := [vR 165, vI v1]) (st' := [vR 165, vI ((266 * ((M 165 6) - 1)) + v1), vR 169]) (dg dc168 43 rfl) rfl rfl ?_
      refine ex_getO (dg dc168 44 rfl) rfl (LOC.st (Nat.le_of_ble_eq_true rfl) rfl) rfl ?_
      show EX Z _ 168 _ [vR 165, vI v1] [vR 166, vI ((266 * ((M 165 6) - 1)) + v1), vR 169] _ _
      refine ex_pu (ls' := [vR 165, vI v1]) (st' := [vI v1, vR 166, vI ((266 * ((M 165 6) - 1)) + v1), vR 169]) (dg dc168 45 rfl) rfl rfl ?_
      refine ex_iald (dg dc168 46 rfl) (LOC.st (Nat.le_of_ble_eq_true rfl) rfl) rfl hf (fun _ hf => ?_)
      refine ex_iast (dg dc168 47 rfl) (LOC.st (Nat.le_of_ble_eq_true rfl) rfl) rfl rfl hf (fun _ hf => ?_)
      refine ex_gen hf (fun M_3 hM_4 hf => ?_)
      refine ex_pu (ls' := [vR 165, vI (v1 + 1)]) (st' := []) (dg dc168 48 rfl) rfl rfl ?_
      refine ex_goto (t := 55) (dg dc168 49 rfl) rfl rfl ?_
      exact ih (v1 + 1) M_3 hf
def mo_remembers_J53   (M : MM) : OR :=
  (mo_remembers_L55  (fun M_5 => some (rV, M_5)) FU 0 M)
set_option maxRecDepth 4000 in
theorem mo_remembers_J53_ok {Z : Nat × (Nat → Int)} {d : Nat} (hd : 0 ≤ d)   {res : AR × MM}  : ∀ (M : MM) (j1 : AV), mo_remembers_J53    M = some res → EX Z d 168 53 [vR 165, j1] [] M res := by
  intro M j1 hf
  unfold mo_remembers_J53 at hf
  refine ex_pu (ls' := [vR 165, j1]) (st' := [vI 0]) (dg dc168 28 rfl) rfl rfl ?_
  refine ex_pu (ls' := [vR 165, vI 0]) (st' := []) (dg dc168 29 rfl) rfl rfl ?_
  refine mo_remembers_L55_ok hd  ?_ FU 0 M hf
  · intro M_5 j0_6 j1_7 hf
    exact ex_vre (dg dc168 50 rfl) rfl hf
def mo_remembers_L11  (K1 : MM → OR) : Nat → Int → MM → OR
  | 0, _, _ => none
  | n + 1, v1, M => (bif cmpB .ge v1 2926 then (K1  M) else (bif inB (v1 + 266) 3192 then (bif inB v1 3192 then (sM (mU M 169 (v1).toNat (M 169 ((v1 + 266)).toNat)) fun M_8 => (mo_remembers_L11  K1 n (v1 + 1) M_8)) else none) else none))
set_option maxRecDepth 4000 in
theorem mo_remembers_L11_ok {Z : Nat × (Nat → Int)} {d : Nat} (hd : 0 ≤ d)  {K1 : MM → OR} {res : AR × MM} (k1 : ∀ (M : MM) (j1 : AV), K1  M = some res → EX Z d 168 40 [vR 165, j1] [] M res) : ∀ (n : Nat) (v1 : Int) (M : MM), mo_remembers_L11  K1 n v1 M = some res → EX Z d 168 11 [vR 165, vI v1] [] M res := by
  intro n
  induction n with
  | zero =>
    intro v1 M hf
    unfold mo_remembers_L11 at hf
    cases hf
  | succ n ih =>
    intro v1 M hf
    unfold mo_remembers_L11 at hf
    refine ex_pu (ls' := [vR 165, vI v1]) (st' := [vI v1]) (dg dc168 6 rfl) rfl rfl ?_
    refine ex_pu (ls' := [vR 165, vI v1]) (st' := [vI 2926, vI v1]) (dg dc168 7 rfl) rfl rfl ?_
    refine ex_icmp (t := 40) (dg dc168 8 rfl) rfl hf (fun _ hf => ?_) (fun _ hf => ?_)
    · exact k1  M _ hf
    · refine ex_pu (ls' := [vR 165, vI v1]) (st' := [vR 165]) (dg dc168 9 rfl) rfl rfl ?_
      refine ex_getO (dg dc168 10 rfl) rfl (LOC.st (Nat.le_of_ble_eq_true rfl) rfl) rfl ?_
      show EX Z _ 168 _ [vR 165, vI v1] [vR 169] _ _
      refine ex_pu (ls' := [vR 165, vI v1]) (st' := [vI v1, vR 169]) (dg dc168 11 rfl) rfl rfl ?_
      refine ex_pu (ls' := [vR 165, vI v1]) (st' := [vR 165, vI v1, vR 169]) (dg dc168 12 rfl) rfl rfl ?_
      refine ex_getO (dg dc168 13 rfl) rfl (LOC.st (Nat.le_of_ble_eq_true rfl) rfl) rfl ?_
      show EX Z _ 168 _ [vR 165, vI v1] [vR 169, vI v1, vR 169] _ _
      refine ex_pu (ls' := [vR 165, vI v1]) (st' := [vI v1, vR 169, vI v1, vR 169]) (dg dc168 14 rfl) rfl rfl ?_
      refine ex_pu (ls' := [vR 165, vI v1]) (st' := [vI 266, vI v1, vR 169, vI v1, vR 169]) (dg dc168 15 rfl) rfl rfl ?_
      refine ex_pu (ls' := [vR 165, vI v1]) (st' := [vI (v1 + 266), vR 169, vI v1, vR 169]) (dg dc168 16 rfl) rfl rfl ?_
      refine ex_iald (dg dc168 17 rfl) (LOC.st (Nat.le_of_ble_eq_true rfl) rfl) rfl hf (fun _ hf => ?_)
      refine ex_iast (dg dc168 18 rfl) (LOC.st (Nat.le_of_ble_eq_true rfl) rfl) rfl rfl hf (fun _ hf => ?_)
      refine ex_gen hf (fun M_8 hM_9 hf => ?_)
      refine ex_pu (ls' := [vR 165, vI (v1 + 1)]) (st' := []) (dg dc168 19 rfl) rfl rfl ?_
      refine ex_goto (t := 11) (dg dc168 20 rfl) rfl rfl ?_
      exact ih (v1 + 1) M_8 hf
def mo_remembers  (M : MM) : OR :=
  (bif cmpB .ne (M 165 6) 12 then (sM (mU M 165 6 ((M 165 6) + 1)) fun M_1 => (mo_remembers_J53    M_1)) else (mo_remembers_L11  (fun M_10 => (mo_remembers_J53    M_10)) FU 0 M))
set_option maxRecDepth 4000 in
theorem mo_remembers_ok {Z : Nat × (Nat → Int)} {d : Nat} (hd : 0 ≤ d) {M : MM}  {res : AR × MM} (hf : mo_remembers  M = some res) : EX Z d 168 0 (ent 168 [vR 165]) [] M res := by
  unfold mo_remembers at hf
  show EX Z _ 168 0 [vR 165, vU] [] M res
  refine ex_pu (ls' := [vR 165, vU]) (st' := [vR 165]) (dg dc168 0 rfl) rfl rfl ?_
  refine ex_getI (dg dc168 1 rfl) rfl (LOC.st (Nat.le_of_ble_eq_true rfl) rfl) rfl ?_
  refine ex_pu (ls' := [vR 165, vU]) (st' := [vI 12, vI (M 165 6)]) (dg dc168 2 rfl) rfl rfl ?_
  refine ex_icmp (t := 43) (dg dc168 3 rfl) rfl hf (fun _ hf => ?_) (fun _ hf => ?_)
  · refine ex_pu (ls' := [vR 165, vU]) (st' := [vR 165]) (dg dc168 22 rfl) rfl rfl ?_
    refine ex_pu (ls' := [vR 165, vU]) (st' := [vR 165, vR 165]) (dg dc168 23 rfl) rfl rfl ?_
    refine ex_getI (dg dc168 24 rfl) rfl (LOC.st (Nat.le_of_ble_eq_true rfl) rfl) rfl ?_
    refine ex_pu (ls' := [vR 165, vU]) (st' := [vI 1, vI (M 165 6), vR 165]) (dg dc168 25 rfl) rfl rfl ?_
    refine ex_pu (ls' := [vR 165, vU]) (st' := [vI ((M 165 6) + 1), vR 165]) (dg dc168 26 rfl) rfl rfl ?_
    refine ex_putI (dg dc168 27 rfl) rfl (LOC.st (Nat.le_of_ble_eq_true rfl) rfl) rfl rfl rfl ?_
    refine ex_gen hf (fun M_1 hM_2 hf => ?_)
    exact mo_remembers_J53_ok hd    M_1 _ hf
  · refine ex_pu (ls' := [vR 165, vU]) (st' := [vI 0]) (dg dc168 4 rfl) rfl rfl ?_
    refine ex_pu (ls' := [vR 165, vI 0]) (st' := []) (dg dc168 5 rfl) rfl rfl ?_
    refine mo_remembers_L11_ok hd  ?_ FU 0 M hf
    · intro M_10 j1_11 hf
      refine ex_goto (t := 53) (dg dc168 21 rfl) rfl rfl ?_
      exact mo_remembers_J53_ok hd    M_10 _ hf
-- GlassHillModel.undo
def il169 : List (Nat × Instr × Nat) := [(0, .aload_n 0, 1), (1, .iconst 0, 1), (2, .putfield 3, 3), (5, .aload_n 0, 1), (6, .getfield 69, 3), (9, .ifCond .ne 5, 3), (12, .iconst 0, 1), (13, .ireturn, 1), (14, .aload_n 0, 1), (15, .dup, 1), (16, .getfield 69, 3), (19, .iconst 1, 1), (20, .isub, 1), (21, .putfield 69, 3), (24, .iconst 0, 1), (25, .istore_n 1, 1), (26, .iload_n 1, 1), (27, .sipush 266, 3), (30, .if_icmp .ge 30, 3), (33, .aload_n 0, 1), (34, .getfield 13, 3), (37, .iload_n 1, 1), (38, .aload_n 0, 1), (39, .getfield 23, 3), (42, .sipush 266, 3), (45, .aload_n 0, 1), (46, .getfield 69, 3), (49, .imul, 1), (50, .iload_n 1, 1), (51, .iadd, 1), (52, .iaload, 1), (53, .iastore, 1), (54, .iinc 1 1, 3), (57, .goto (-31), 3), (60, .iconst 1, 1), (61, .ireturn, 1)]
theorem dc169 : dcs (mC 169) il169 := dc_of (by decide +kernel)
def mo_undo_L26  (K1 : MM → OR) : Nat → Int → MM → OR
  | 0, _, _ => none
  | n + 1, v1, M => (bif cmpB .ge v1 266 then (K1  M) else (bif inB ((266 * (M 165 6)) + v1) 3192 then (bif inB v1 1964 then (sM (mU M 166 (v1).toNat (M 169 (((266 * (M 165 6)) + v1)).toNat)) fun M_5 => (mo_undo_L26  K1 n (v1 + 1) M_5)) else none) else none))
set_option maxRecDepth 4000 in
theorem mo_undo_L26_ok {Z : Nat × (Nat → Int)} {d : Nat} (hd : 0 ≤ d)  {K1 : MM → OR} {res : AR × MM} (k1 : ∀ (M : MM) (j0 j1 : AV), K1  M = some res → EX Z d 169 60 [j0, j1] [] M res) : ∀ (n : Nat) (v1 : Int) (M : MM), mo_undo_L26  K1 n v1 M = some res → EX Z d 169 26 [vR 165, vI v1] [] M res := by
  intro n
  induction n with
  | zero =>
    intro v1 M hf
    unfold mo_undo_L26 at hf
    cases hf
  | succ n ih =>
    intro v1 M hf
    unfold mo_undo_L26 at hf
    refine ex_pu (ls' := [vR 165, vI v1]) (st' := [vI v1]) (dg dc169 16 rfl) rfl rfl ?_
    refine ex_pu (ls' := [vR 165, vI v1]) (st' := [vI 266, vI v1]) (dg dc169 17 rfl) rfl rfl ?_
    refine ex_icmp (t := 60) (dg dc169 18 rfl) rfl hf (fun _ hf => ?_) (fun _ hf => ?_)
    · exact k1  M _ _ hf
    · refine ex_pu (ls' := [vR 165, vI v1]) (st' := [vR 165]) (dg dc169 19 rfl) rfl rfl ?_
      refine ex_getO (dg dc169 20 rfl) rfl (LOC.st (Nat.le_of_ble_eq_true rfl) rfl) rfl ?_
      show EX Z _ 169 _ [vR 165, vI v1] [vR 166] _ _
      refine ex_pu (ls' := [vR 165, vI v1]) (st' := [vI v1, vR 166]) (dg dc169 21 rfl) rfl rfl ?_
      refine ex_pu (ls' := [vR 165, vI v1]) (st' := [vR 165, vI v1, vR 166]) (dg dc169 22 rfl) rfl rfl ?_
      refine ex_getO (dg dc169 23 rfl) rfl (LOC.st (Nat.le_of_ble_eq_true rfl) rfl) rfl ?_
      show EX Z _ 169 _ [vR 165, vI v1] [vR 169, vI v1, vR 166] _ _
      refine ex_pu (ls' := [vR 165, vI v1]) (st' := [vI 266, vR 169, vI v1, vR 166]) (dg dc169 24 rfl) rfl rfl ?_
      refine ex_pu (ls' := [vR 165, vI v1]) (st' := [vR 165, vI 266, vR 169, vI v1, vR 166]) (dg dc169 25 rfl) rfl rfl ?_
      refine ex_getI (dg dc169 26 rfl) rfl (LOC.st (Nat.le_of_ble_eq_true rfl) rfl) rfl ?_
      refine ex_pu (ls' := [vR 165, vI v1]) (st' := [vI (266 * (M 165 6)), vR 169, vI v1, vR 166]) (dg dc169 27 rfl) rfl rfl ?_
      refine ex_pu (ls' := [vR 165, vI v1]) (st' := [vI v1, vI (266 * (M 165 6)), vR 169, vI v1, vR 166]) (dg dc169 28 rfl) rfl rfl ?_
      refine ex_pu (ls' := [vR 165, vI v1]) (st' := [vI ((266 * (M 165 6)) + v1), vR 169, vI v1, vR 166]) (dg dc169 29 rfl) rfl rfl ?_
      refine ex_iald (dg dc169 30 rfl) (LOC.st (Nat.le_of_ble_eq_true rfl) rfl) rfl hf (fun _ hf => ?_)
      refine ex_iast (dg dc169 31 rfl) (LOC.st (Nat.le_of_ble_eq_true rfl) rfl) rfl rfl hf (fun _ hf => ?_)
      refine ex_gen hf (fun M_5 hM_6 hf => ?_)
      refine ex_pu (ls' := [vR 165, vI (v1 + 1)]) (st' := []) (dg dc169 32 rfl) rfl rfl ?_
      refine ex_goto (t := 26) (dg dc169 33 rfl) rfl rfl ?_
      exact ih (v1 + 1) M_5 hf
def mo_undo  (M : MM) : OR :=
  (sM (mU M 165 0 0) fun M_1 => (bif cmpB .ne (M_1 165 6) 0 then (sM (mU M_1 165 6 ((M_1 165 6) - 1)) fun M_3 => (mo_undo_L26  (fun M_7 => some (rI 1, M_7)) FU 0 M_3)) else some (rI 0, M_1)))
set_option maxRecDepth 4000 in
theorem mo_undo_ok {Z : Nat × (Nat → Int)} {d : Nat} (hd : 0 ≤ d) {M : MM}  {res : AR × MM} (hf : mo_undo  M = some res) : EX Z d 169 0 (ent 169 [vR 165]) [] M res := by
  unfold mo_undo at hf
  show EX Z _ 169 0 [vR 165, vU] [] M res
  refine ex_pu (ls' := [vR 165, vU]) (st' := [vR 165]) (dg dc169 0 rfl) rfl rfl ?_
  refine ex_pu (ls' := [vR 165, vU]) (st' := [vI 0, vR 165]) (dg dc169 1 rfl) rfl rfl ?_
  refine ex_putI (dg dc169 2 rfl) rfl (LOC.st (Nat.le_of_ble_eq_true rfl) rfl) rfl rfl rfl ?_
  refine ex_gen hf (fun M_1 hM_2 hf => ?_)
  refine ex_pu (ls' := [vR 165, vU]) (st' := [vR 165]) (dg dc169 3 rfl) rfl rfl ?_
  refine ex_getI (dg dc169 4 rfl) rfl (LOC.st (Nat.le_of_ble_eq_true rfl) rfl) rfl ?_
  refine ex_if (t := 14) (dg dc169 5 rfl) rfl hf (fun _ hf => ?_) (fun _ hf => ?_)
  · refine ex_pu (ls' := [vR 165, vU]) (st' := [vR 165]) (dg dc169 8 rfl) rfl rfl ?_
    refine ex_pu (ls' := [vR 165, vU]) (st' := [vR 165, vR 165]) (dg dc169 9 rfl) rfl rfl ?_
    refine ex_getI (dg dc169 10 rfl) rfl (LOC.st (Nat.le_of_ble_eq_true rfl) rfl) rfl ?_
    refine ex_pu (ls' := [vR 165, vU]) (st' := [vI 1, vI (M_1 165 6), vR 165]) (dg dc169 11 rfl) rfl rfl ?_
    refine ex_pu (ls' := [vR 165, vU]) (st' := [vI ((M_1 165 6) - 1), vR 165]) (dg dc169 12 rfl) rfl rfl ?_
    refine ex_putI (dg dc169 13 rfl) rfl (LOC.st (Nat.le_of_ble_eq_true rfl) rfl) rfl rfl rfl ?_
    refine ex_gen hf (fun M_3 hM_4 hf => ?_)
    refine ex_pu (ls' := [vR 165, vU]) (st' := [vI 0]) (dg dc169 14 rfl) rfl rfl ?_
    refine ex_pu (ls' := [vR 165, vI 0]) (st' := []) (dg dc169 15 rfl) rfl rfl ?_
    refine mo_undo_L26_ok hd  ?_ FU 0 M_3 hf
    · intro M_7 j0_8 j1_9 hf
      refine ex_pu (ls' := [j0_8, j1_9]) (st' := [vI 1]) (dg dc169 34 rfl) rfl rfl ?_
      exact ex_ire (dg dc169 35 rfl) rfl hf
  · refine ex_pu (ls' := [vR 165, vU]) (st' := [vI 0]) (dg dc169 6 rfl) rfl rfl ?_
    exact ex_ire (dg dc169 7 rfl) rfl hf
-- GlassHillModel.places
def il170 : List (Nat × Instr × Nat) := [(0, .aload_n 0, 1), (1, .getfield 13, 3), (4, .iconst 0, 1), (5, .iaload, 1), (6, .ireturn, 1)]
theorem dc170 : dcs (mC 170) il170 := dc_of (by decide +kernel)
def mo_places  (M : MM) : OR :=
  (bif inB 0 1964 then some (rI (M 166 0), M) else none)
set_option maxRecDepth 4000 in
theorem mo_places_ok {Z : Nat × (Nat → Int)} {d : Nat} (hd : 0 ≤ d) {M : MM}  {res : AR × MM} (hf : mo_places  M = some res) : EX Z d 170 0 (ent 170 [vR 165]) [] M res := by
  unfold mo_places at hf
  show EX Z _ 170 0 [vR 165] [] M res
  refine ex_pu (ls' := [vR 165]) (st' := [vR 165]) (dg dc170 0 rfl) rfl rfl ?_
  refine ex_getO (dg dc170 1 rfl) rfl (LOC.st (Nat.le_of_ble_eq_true rfl) rfl) rfl ?_
  show EX Z _ 170 _ [vR 165] [vR 166] _ _
  refine ex_pu (ls' := [vR 165]) (st' := [vI 0, vR 166]) (dg dc170 2 rfl) rfl rfl ?_
  refine ex_iald (dg dc170 3 rfl) (LOC.st (Nat.le_of_ble_eq_true rfl) rfl) rfl hf (fun _ hf => ?_)
  exact ex_ire (dg dc170 4 rfl) rfl hf
-- GlassHillModel.things
def il171 : List (Nat × Instr × Nat) := [(0, .aload_n 0, 1), (1, .getfield 13, 3), (4, .iconst 1, 1), (5, .iaload, 1), (6, .ireturn, 1)]
theorem dc171 : dcs (mC 171) il171 := dc_of (by decide +kernel)
def mo_things  (M : MM) : OR :=
  (bif inB 1 1964 then some (rI (M 166 1), M) else none)
set_option maxRecDepth 4000 in
theorem mo_things_ok {Z : Nat × (Nat → Int)} {d : Nat} (hd : 0 ≤ d) {M : MM}  {res : AR × MM} (hf : mo_things  M = some res) : EX Z d 171 0 (ent 171 [vR 165]) [] M res := by
  unfold mo_things at hf
  show EX Z _ 171 0 [vR 165] [] M res
  refine ex_pu (ls' := [vR 165]) (st' := [vR 165]) (dg dc171 0 rfl) rfl rfl ?_
  refine ex_getO (dg dc171 1 rfl) rfl (LOC.st (Nat.le_of_ble_eq_true rfl) rfl) rfl ?_
  show EX Z _ 171 _ [vR 165] [vR 166] _ _
  refine ex_pu (ls' := [vR 165]) (st' := [vI 1, vR 166]) (dg dc171 2 rfl) rfl rfl ?_
  refine ex_iald (dg dc171 3 rfl) (LOC.st (Nat.le_of_ble_eq_true rfl) rfl) rfl hf (fun _ hf => ?_)
  exact ex_ire (dg dc171 4 rfl) rfl hf
-- GlassHillModel.roads
def il172 : List (Nat × Instr × Nat) := [(0, .aload_n 0, 1), (1, .getfield 13, 3), (4, .iconst 2, 1), (5, .iaload, 1), (6, .ireturn, 1)]
theorem dc172 : dcs (mC 172) il172 := dc_of (by decide +kernel)
def mo_roads  (M : MM) : OR :=
  (bif inB 2 1964 then some (rI (M 166 2), M) else none)
set_option maxRecDepth 4000 in
theorem mo_roads_ok {Z : Nat × (Nat → Int)} {d : Nat} (hd : 0 ≤ d) {M : MM}  {res : AR × MM} (hf : mo_roads  M = some res) : EX Z d 172 0 (ent 172 [vR 165]) [] M res := by
  unfold mo_roads at hf
  show EX Z _ 172 0 [vR 165] [] M res
  refine ex_pu (ls' := [vR 165]) (st' := [vR 165]) (dg dc172 0 rfl) rfl rfl ?_
  refine ex_getO (dg dc172 1 rfl) rfl (LOC.st (Nat.le_of_ble_eq_true rfl) rfl) rfl ?_
  show EX Z _ 172 _ [vR 165] [vR 166] _ _
  refine ex_pu (ls' := [vR 165]) (st' := [vI 2, vR 166]) (dg dc172 2 rfl) rfl rfl ?_
  refine ex_iald (dg dc172 3 rfl) (LOC.st (Nat.le_of_ble_eq_true rfl) rfl) rfl hf (fun _ hf => ?_)
  exact ex_ire (dg dc172 4 rfl) rfl hf
-- GlassHillModel.brothers
def il173 : List (Nat × Instr × Nat) := [(0, .aload_n 0, 1), (1, .getfield 13, 3), (4, .iconst 3, 1), (5, .iaload, 1), (6, .ireturn, 1)]
theorem dc173 : dcs (mC 173) il173 := dc_of (by decide +kernel)
def mo_brothers  (M : MM) : OR :=
  (bif inB 3 1964 then some (rI (M 166 3), M) else none)
set_option maxRecDepth 4000 in
theorem mo_brothers_ok {Z : Nat × (Nat → Int)} {d : Nat} (hd : 0 ≤ d) {M : MM}  {res : AR × MM} (hf : mo_brothers  M = some res) : EX Z d 173 0 (ent 173 [vR 165]) [] M res := by
  unfold mo_brothers at hf
  show EX Z _ 173 0 [vR 165] [] M res
  refine ex_pu (ls' := [vR 165]) (st' := [vR 165]) (dg dc173 0 rfl) rfl rfl ?_
  refine ex_getO (dg dc173 1 rfl) rfl (LOC.st (Nat.le_of_ble_eq_true rfl) rfl) rfl ?_
  show EX Z _ 173 _ [vR 165] [vR 166] _ _
  refine ex_pu (ls' := [vR 165]) (st' := [vI 3, vR 166]) (dg dc173 2 rfl) rfl rfl ?_
  refine ex_iald (dg dc173 3 rfl) (LOC.st (Nat.le_of_ble_eq_true rfl) rfl) rfl hf (fun _ hf => ?_)
  exact ex_ire (dg dc173 4 rfl) rfl hf
-- GlassHillModel.of
def il174 : List (Nat × Instr × Nat) := [(0, .aload_n 0, 1), (1, .getfield 13, 3), (4, .bipush 10, 2), (6, .bipush 8, 2), (8, .iload_n 1, 1), (9, .imul, 1), (10, .iadd, 1), (11, .iload_n 2, 1), (12, .iadd, 1), (13, .iaload, 1), (14, .ireturn, 1)]
theorem dc174 : dcs (mC 174) il174 := dc_of (by decide +kernel)
def mo_of (v1 : Int) (v2 : Int) (M : MM) : OR :=
  (bif inB ((10 + (8 * v1)) + v2) 1964 then some (rI (M 166 (((10 + (8 * v1)) + v2)).toNat), M) else none)
set_option maxRecDepth 4000 in
theorem mo_of_ok {Z : Nat × (Nat → Int)} {d : Nat} (hd : 0 ≤ d) {M : MM}  {v1 v2 : Int} {res : AR × MM} (hf : mo_of v1 v2 M = some res) : EX Z d 174 0 (ent 174 [vR 165, vI v1, vI v2]) [] M res := by
  unfold mo_of at hf
  show EX Z _ 174 0 [vR 165, vI v1, vI v2] [] M res
  refine ex_pu (ls' := [vR 165, vI v1, vI v2]) (st' := [vR 165]) (dg dc174 0 rfl) rfl rfl ?_
  refine ex_getO (dg dc174 1 rfl) rfl (LOC.st (Nat.le_of_ble_eq_true rfl) rfl) rfl ?_
  show EX Z _ 174 _ [vR 165, vI v1, vI v2] [vR 166] _ _
  refine ex_pu (ls' := [vR 165, vI v1, vI v2]) (st' := [vI 10, vR 166]) (dg dc174 2 rfl) rfl rfl ?_
  refine ex_pu (ls' := [vR 165, vI v1, vI v2]) (st' := [vI 8, vI 10, vR 166]) (dg dc174 3 rfl) rfl rfl ?_
  refine ex_pu (ls' := [vR 165, vI v1, vI v2]) (st' := [vI v1, vI 8, vI 10, vR 166]) (dg dc174 4 rfl) rfl rfl ?_
  refine ex_pu (ls' := [vR 165, vI v1, vI v2]) (st' := [vI (8 * v1), vI 10, vR 166]) (dg dc174 5 rfl) rfl rfl ?_
  refine ex_pu (ls' := [vR 165, vI v1, vI v2]) (st' := [vI (10 + (8 * v1)), vR 166]) (dg dc174 6 rfl) rfl rfl ?_
  refine ex_pu (ls' := [vR 165, vI v1, vI v2]) (st' := [vI v2, vI (10 + (8 * v1)), vR 166]) (dg dc174 7 rfl) rfl rfl ?_
  refine ex_pu (ls' := [vR 165, vI v1, vI v2]) (st' := [vI ((10 + (8 * v1)) + v2), vR 166]) (dg dc174 8 rfl) rfl rfl ?_
  refine ex_iald (dg dc174 9 rfl) (LOC.st (Nat.le_of_ble_eq_true rfl) rfl) rfl hf (fun _ hf => ?_)
  exact ex_ire (dg dc174 10 rfl) rfl hf
-- GlassHillModel.sets
def il175 : List (Nat × Instr × Nat) := [(0, .aload_n 0, 1), (1, .getfield 13, 3), (4, .bipush 10, 2), (6, .bipush 8, 2), (8, .iload_n 1, 1), (9, .imul, 1), (10, .iadd, 1), (11, .iload_n 2, 1), (12, .iadd, 1), (13, .iload_n 3, 1), (14, .iastore, 1), (15, .return_, 1)]
theorem dc175 : dcs (mC 175) il175 := dc_of (by decide +kernel)
def mo_sets (v1 : Int) (v2 : Int) (v3 : Int) (M : MM) : OR :=
  (bif inB ((10 + (8 * v1)) + v2) 1964 then (sM (mU M 166 (((10 + (8 * v1)) + v2)).toNat v3) fun M_1 => some (rV, M_1)) else none)
set_option maxRecDepth 4000 in
theorem mo_sets_ok {Z : Nat × (Nat → Int)} {d : Nat} (hd : 0 ≤ d) {M : MM}  {v1 v2 v3 : Int} {res : AR × MM} (hf : mo_sets v1 v2 v3 M = some res) : EX Z d 175 0 (ent 175 [vR 165, vI v1, vI v2, vI v3]) [] M res := by
  unfold mo_sets at hf
  show EX Z _ 175 0 [vR 165, vI v1, vI v2, vI v3] [] M res
  refine ex_pu (ls' := [vR 165, vI v1, vI v2, vI v3]) (st' := [vR 165]) (dg dc175 0 rfl) rfl rfl ?_
  refine ex_getO (dg dc175 1 rfl) rfl (LOC.st (Nat.le_of_ble_eq_true rfl) rfl) rfl ?_
  show EX Z _ 175 _ [vR 165, vI v1, vI v2, vI v3] [vR 166] _ _
  refine ex_pu (ls' := [vR 165, vI v1, vI v2, vI v3]) (st' := [vI 10, vR 166]) (dg dc175 2 rfl) rfl rfl ?_
  refine ex_pu (ls' := [vR 165, vI v1, vI v2, vI v3]) (st' := [vI 8, vI 10, vR 166]) (dg dc175 3 rfl) rfl rfl ?_
  refine ex_pu (ls' := [vR 165, vI v1, vI v2, vI v3]) (st' := [vI v1, vI 8, vI 10, vR 166]) (dg dc175 4 rfl) rfl rfl ?_
  refine ex_pu (ls' := [vR 165, vI v1, vI v2, vI v3]) (st' := [vI (8 * v1), vI 10, vR 166]) (dg dc175 5 rfl) rfl rfl ?_
  refine ex_pu (ls' := [vR 165, vI v1, vI v2, vI v3]) (st' := [vI (10 + (8 * v1)), vR 166]) (dg dc175 6 rfl) rfl rfl ?_
  refine ex_pu (ls' := [vR 165, vI v1, vI v2, vI v3]) (st' := [vI v2, vI (10 + (8 * v1)), vR 166]) (dg dc175 7 rfl) rfl rfl ?_
  refine ex_pu (ls' := [vR 165, vI v1, vI v2, vI v3]) (st' := [vI ((10 + (8 * v1)) + v2), vR 166]) (dg dc175 8 rfl) rfl rfl ?_
  refine ex_pu (ls' := [vR 165, vI v1, vI v2, vI v3]) (st' := [vI v3, vI ((10 + (8 * v1)) + v2), vR 166]) (dg dc175 9 rfl) rfl rfl ?_
  refine ex_iast (dg dc175 10 rfl) (LOC.st (Nat.le_of_ble_eq_true rfl) rfl) rfl rfl hf (fun _ hf => ?_)
  refine ex_gen hf (fun M_1 hM_2 hf => ?_)
  exact ex_vre (dg dc175 11 rfl) rfl hf
-- GlassHillModel.ofThing
def il176 : List (Nat × Instr × Nat) := [(0, .aload_n 0, 1), (1, .getfield 13, 3), (4, .bipush 90, 2), (6, .iconst 4, 1), (7, .iload_n 1, 1), (8, .imul, 1), (9, .iadd, 1), (10, .iload_n 2, 1), (11, .iadd, 1), (12, .iaload, 1), (13, .ireturn, 1)]
theorem dc176 : dcs (mC 176) il176 := dc_of (by decide +kernel)
def mo_ofThing (v1 : Int) (v2 : Int) (M : MM) : OR :=
  (bif inB ((90 + (4 * v1)) + v2) 1964 then some (rI (M 166 (((90 + (4 * v1)) + v2)).toNat), M) else none)
set_option maxRecDepth 4000 in
theorem mo_ofThing_ok {Z : Nat × (Nat → Int)} {d : Nat} (hd : 0 ≤ d) {M : MM}  {v1 v2 : Int} {res : AR × MM} (hf : mo_ofThing v1 v2 M = some res) : EX Z d 176 0 (ent 176 [vR 165, vI v1, vI v2]) [] M res := by
  unfold mo_ofThing at hf
  show EX Z _ 176 0 [vR 165, vI v1, vI v2] [] M res
  refine ex_pu (ls' := [vR 165, vI v1, vI v2]) (st' := [vR 165]) (dg dc176 0 rfl) rfl rfl ?_
  refine ex_getO (dg dc176 1 rfl) rfl (LOC.st (Nat.le_of_ble_eq_true rfl) rfl) rfl ?_
  show EX Z _ 176 _ [vR 165, vI v1, vI v2] [vR 166] _ _
  refine ex_pu (ls' := [vR 165, vI v1, vI v2]) (st' := [vI 90, vR 166]) (dg dc176 2 rfl) rfl rfl ?_
  refine ex_pu (ls' := [vR 165, vI v1, vI v2]) (st' := [vI 4, vI 90, vR 166]) (dg dc176 3 rfl) rfl rfl ?_
  refine ex_pu (ls' := [vR 165, vI v1, vI v2]) (st' := [vI v1, vI 4, vI 90, vR 166]) (dg dc176 4 rfl) rfl rfl ?_
  refine ex_pu (ls' := [vR 165, vI v1, vI v2]) (st' := [vI (4 * v1), vI 90, vR 166]) (dg dc176 5 rfl) rfl rfl ?_
  refine ex_pu (ls' := [vR 165, vI v1, vI v2]) (st' := [vI (90 + (4 * v1)), vR 166]) (dg dc176 6 rfl) rfl rfl ?_
  refine ex_pu (ls' := [vR 165, vI v1, vI v2]) (st' := [vI v2, vI (90 + (4 * v1)), vR 166]) (dg dc176 7 rfl) rfl rfl ?_
  refine ex_pu (ls' := [vR 165, vI v1, vI v2]) (st' := [vI ((90 + (4 * v1)) + v2), vR 166]) (dg dc176 8 rfl) rfl rfl ?_
  refine ex_iald (dg dc176 9 rfl) (LOC.st (Nat.le_of_ble_eq_true rfl) rfl) rfl hf (fun _ hf => ?_)
  exact ex_ire (dg dc176 10 rfl) rfl hf
-- GlassHillModel.ofRoad
def il177 : List (Nat × Instr × Nat) := [(0, .aload_n 0, 1), (1, .getfield 13, 3), (4, .sipush 130, 3), (7, .iconst 4, 1), (8, .iload_n 1, 1), (9, .imul, 1), (10, .iadd, 1), (11, .iload_n 2, 1), (12, .iadd, 1), (13, .iaload, 1), (14, .ireturn, 1)]
theorem dc177 : dcs (mC 177) il177 := dc_of (by decide +kernel)
def mo_ofRoad (v1 : Int) (v2 : Int) (M : MM) : OR :=
  (bif inB ((130 + (4 * v1)) + v2) 1964 then some (rI (M 166 (((130 + (4 * v1)) + v2)).toNat), M) else none)
set_option maxRecDepth 4000 in
theorem mo_ofRoad_ok {Z : Nat × (Nat → Int)} {d : Nat} (hd : 0 ≤ d) {M : MM}  {v1 v2 : Int} {res : AR × MM} (hf : mo_ofRoad v1 v2 M = some res) : EX Z d 177 0 (ent 177 [vR 165, vI v1, vI v2]) [] M res := by
  unfold mo_ofRoad at hf
  show EX Z _ 177 0 [vR 165, vI v1, vI v2] [] M res
  refine ex_pu (ls' := [vR 165, vI v1, vI v2]) (st' := [vR 165]) (dg dc177 0 rfl) rfl rfl ?_
  refine ex_getO (dg dc177 1 rfl) rfl (LOC.st (Nat.le_of_ble_eq_true rfl) rfl) rfl ?_
  show EX Z _ 177 _ [vR 165, vI v1, vI v2] [vR 166] _ _
  refine ex_pu (ls' := [vR 165, vI v1, vI v2]) (st' := [vI 130, vR 166]) (dg dc177 2 rfl) rfl rfl ?_
  refine ex_pu (ls' := [vR 165, vI v1, vI v2]) (st' := [vI 4, vI 130, vR 166]) (dg dc177 3 rfl) rfl rfl ?_
  refine ex_pu (ls' := [vR 165, vI v1, vI v2]) (st' := [vI v1, vI 4, vI 130, vR 166]) (dg dc177 4 rfl) rfl rfl ?_
  refine ex_pu (ls' := [vR 165, vI v1, vI v2]) (st' := [vI (4 * v1), vI 130, vR 166]) (dg dc177 5 rfl) rfl rfl ?_
  refine ex_pu (ls' := [vR 165, vI v1, vI v2]) (st' := [vI (130 + (4 * v1)), vR 166]) (dg dc177 6 rfl) rfl rfl ?_
  refine ex_pu (ls' := [vR 165, vI v1, vI v2]) (st' := [vI v2, vI (130 + (4 * v1)), vR 166]) (dg dc177 7 rfl) rfl rfl ?_
  refine ex_pu (ls' := [vR 165, vI v1, vI v2]) (st' := [vI ((130 + (4 * v1)) + v2), vR 166]) (dg dc177 8 rfl) rfl rfl ?_
  refine ex_iald (dg dc177 9 rfl) (LOC.st (Nat.le_of_ble_eq_true rfl) rfl) rfl hf (fun _ hf => ?_)
  exact ex_ire (dg dc177 10 rfl) rfl hf
-- GlassHillModel.ofBrother
def il178 : List (Nat × Instr × Nat) := [(0, .aload_n 0, 1), (1, .getfield 13, 3), (4, .sipush 194, 3), (7, .bipush 6, 2), (9, .iload_n 1, 1), (10, .imul, 1), (11, .iadd, 1), (12, .iload_n 2, 1), (13, .iadd, 1), (14, .iaload, 1), (15, .ireturn, 1)]
theorem dc178 : dcs (mC 178) il178 := dc_of (by decide +kernel)
def mo_ofBrother (v1 : Int) (v2 : Int) (M : MM) : OR :=
  (bif inB ((194 + (6 * v1)) + v2) 1964 then some (rI (M 166 (((194 + (6 * v1)) + v2)).toNat), M) else none)
set_option maxRecDepth 4000 in
theorem mo_ofBrother_ok {Z : Nat × (Nat → Int)} {d : Nat} (hd : 0 ≤ d) {M : MM}  {v1 v2 : Int} {res : AR × MM} (hf : mo_ofBrother v1 v2 M = some res) : EX Z d 178 0 (ent 178 [vR 165, vI v1, vI v2]) [] M res := by
  unfold mo_ofBrother at hf
  show EX Z _ 178 0 [vR 165, vI v1, vI v2] [] M res
  refine ex_pu (ls' := [vR 165, vI v1, vI v2]) (st' := [vR 165]) (dg dc178 0 rfl) rfl rfl ?_
  refine ex_getO (dg dc178 1 rfl) rfl (LOC.st (Nat.le_of_ble_eq_true rfl) rfl) rfl ?_
  show EX Z _ 178 _ [vR 165, vI v1, vI v2] [vR 166] _ _
  refine ex_pu (ls' := [vR 165, vI v1, vI v2]) (st' := [vI 194, vR 166]) (dg dc178 2 rfl) rfl rfl ?_
  refine ex_pu (ls' := [vR 165, vI v1, vI v2]) (st' := [vI 6, vI 194, vR 166]) (dg dc178 3 rfl) rfl rfl ?_
  refine ex_pu (ls' := [vR 165, vI v1, vI v2]) (st' := [vI v1, vI 6, vI 194, vR 166]) (dg dc178 4 rfl) rfl rfl ?_
  refine ex_pu (ls' := [vR 165, vI v1, vI v2]) (st' := [vI (6 * v1), vI 194, vR 166]) (dg dc178 5 rfl) rfl rfl ?_
  refine ex_pu (ls' := [vR 165, vI v1, vI v2]) (st' := [vI (194 + (6 * v1)), vR 166]) (dg dc178 6 rfl) rfl rfl ?_
  refine ex_pu (ls' := [vR 165, vI v1, vI v2]) (st' := [vI v2, vI (194 + (6 * v1)), vR 166]) (dg dc178 7 rfl) rfl rfl ?_
  refine ex_pu (ls' := [vR 165, vI v1, vI v2]) (st' := [vI ((194 + (6 * v1)) + v2), vR 166]) (dg dc178 8 rfl) rfl rfl ?_
  refine ex_iald (dg dc178 9 rfl) (LOC.st (Nat.le_of_ble_eq_true rfl) rfl) rfl hf (fun _ hf => ?_)
  exact ex_ire (dg dc178 10 rfl) rfl hf
-- GlassHillModel.isKeeper
def il179 : List (Nat × Instr × Nat) := [(0, .aload_n 0, 1), (1, .iload_n 1, 1), (2, .iconst 0, 1), (3, .invokevirtual 72, 3), (6, .iconst 1, 1), (7, .if_icmp .ne 7, 3), (10, .iconst 1, 1), (11, .goto 4, 3), (14, .iconst 0, 1), (15, .ireturn, 1)]
theorem dc179 : dcs (mC 179) il179 := dc_of (by decide +kernel)
def mo_isKeeper (v1 : Int) (M : MM) : OR :=
  (bI (mo_of v1 0 M) fun z_3 M_2 => (bif cmpB .ne z_3 1 then some (rI 0, M_2) else some (rI 1, M_2)))
set_option maxRecDepth 4000 in
theorem mo_isKeeper_ok {Z : Nat × (Nat → Int)} {d : Nat} (hd : 1 ≤ d) {M : MM}  {v1 : Int} {res : AR × MM} (hf : mo_isKeeper v1 M = some res) : EX Z d 179 0 (ent 179 [vR 165, vI v1]) [] M res := by
  obtain ⟨e9, rfl⟩ : ∃ e9, d = e9 + 1 := ⟨d - 1, by omega⟩
  unfold mo_isKeeper at hf
  show EX Z _ 179 0 [vR 165, vI v1] [] M res
  refine ex_pu (ls' := [vR 165, vI v1]) (st' := [vR 165]) (dg dc179 0 rfl) rfl rfl ?_
  refine ex_pu (ls' := [vR 165, vI v1]) (st' := [vI v1, vR 165]) (dg dc179 1 rfl) rfl rfl ?_
  refine ex_pu (ls' := [vR 165, vI v1]) (st' := [vI 0, vI v1, vR 165]) (dg dc179 2 rfl) rfl rfl ?_
  refine ex_cI (vs := [vR 165, vI v1, vI 0]) (st' := []) (F := (mo_of v1 0 M)) (Or.inr (Or.inl ⟨rfl, (dg dc179 3 rfl)⟩)) rfl rfl (rk1 (LOC.st (Nat.le_of_ble_eq_true rfl) rfl) rfl) rfl (fun _ r9 => mo_of_ok (Z := Z) (d := e9) (by omega)  r9) hf (fun z_3 M_2 he_1 hf => ?_)
  refine ex_pu (ls' := [vR 165, vI v1]) (st' := [vI 1, vI z_3]) (dg dc179 4 rfl) rfl rfl ?_
  refine ex_icmp (t := 14) (dg dc179 5 rfl) rfl hf (fun _ hf => ?_) (fun _ hf => ?_)
  · refine ex_pu (ls' := [vR 165, vI v1]) (st' := [vI 0]) (dg dc179 8 rfl) rfl rfl ?_
    exact ex_ire (dg dc179 9 rfl) rfl hf
  · refine ex_pu (ls' := [vR 165, vI v1]) (st' := [vI 1]) (dg dc179 6 rfl) rfl rfl ?_
    refine ex_goto (t := 15) (dg dc179 7 rfl) rfl rfl ?_
    exact ex_ire (dg dc179 9 rfl) rfl hf
-- GlassHillModel.noPlace
def il180 : List (Nat × Instr × Nat) := [(0, .iload_n 1, 1), (1, .iconst 0, 1), (2, .aload_n 0, 1), (3, .invokevirtual 76, 3), (6, .iconst 1, 1), (7, .isub, 1), (8, .invokestatic 80, 3), (11, .ifCond .ne 7, 3), (14, .iconst 1, 1), (15, .goto 4, 3), (18, .iconst 0, 1), (19, .ireturn, 1)]
theorem dc180 : dcs (mC 180) il180 := dc_of (by decide +kernel)
def mo_noPlace (v1 : Int) (M : MM) : OR :=
  (bI (mo_places  M) fun z_3 M_2 => (bI (mo_in v1 0 (z_3 - 1) M_2) fun z_6 M_5 => (bif cmpB .ne z_6 0 then some (rI 0, M_5) else some (rI 1, M_5))))
set_option maxRecDepth 4000 in
theorem mo_noPlace_ok {Z : Nat × (Nat → Int)} {d : Nat} (hd : 1 ≤ d) {M : MM}  {v1 : Int} {res : AR × MM} (hf : mo_noPlace v1 M = some res) : EX Z d 180 0 (ent 180 [vR 165, vI v1]) [] M res := by
  obtain ⟨e9, rfl⟩ : ∃ e9, d = e9 + 1 := ⟨d - 1, by omega⟩
  unfold mo_noPlace at hf
  show EX Z _ 180 0 [vR 165, vI v1] [] M res
  refine ex_pu (ls' := [vR 165, vI v1]) (st' := [vI v1]) (dg dc180 0 rfl) rfl rfl ?_
  refine ex_pu (ls' := [vR 165, vI v1]) (st' := [vI 0, vI v1]) (dg dc180 1 rfl) rfl rfl ?_
  refine ex_pu (ls' := [vR 165, vI v1]) (st' := [vR 165, vI 0, vI v1]) (dg dc180 2 rfl) rfl rfl ?_
  refine ex_cI (vs := [vR 165]) (st' := [vI 0, vI v1]) (F := (mo_places  M)) (Or.inr (Or.inl ⟨rfl, (dg dc180 3 rfl)⟩)) rfl rfl (rk1 (LOC.st (Nat.le_of_ble_eq_true rfl) rfl) rfl) rfl (fun _ r9 => mo_places_ok (Z := Z) (d := e9) (by omega)  r9) hf (fun z_3 M_2 he_1 hf => ?_)
  refine ex_pu (ls' := [vR 165, vI v1]) (st' := [vI 1, vI z_3, vI 0, vI v1]) (dg dc180 4 rfl) rfl rfl ?_
  refine ex_pu (ls' := [vR 165, vI v1]) (st' := [vI (z_3 - 1), vI 0, vI v1]) (dg dc180 5 rfl) rfl rfl ?_
  refine ex_cI (vs := [vI v1, vI 0, vI (z_3 - 1)]) (st' := []) (F := (mo_in v1 0 (z_3 - 1) M_2)) (Or.inl ⟨rfl, (dg dc180 6 rfl)⟩) rfl rfl (Or.inl rfl) rfl (fun _ r9 => mo_in_ok (Z := Z) (d := e9) (by omega)  r9) hf (fun z_6 M_5 he_4 hf => ?_)
  refine ex_if (t := 18) (dg dc180 7 rfl) rfl hf (fun _ hf => ?_) (fun _ hf => ?_)
  · refine ex_pu (ls' := [vR 165, vI v1]) (st' := [vI 0]) (dg dc180 10 rfl) rfl rfl ?_
    exact ex_ire (dg dc180 11 rfl) rfl hf
  · refine ex_pu (ls' := [vR 165, vI v1]) (st' := [vI 1]) (dg dc180 8 rfl) rfl rfl ?_
    refine ex_goto (t := 19) (dg dc180 9 rfl) rfl rfl ?_
    exact ex_ire (dg dc180 11 rfl) rfl hf
-- GlassHillModel.noThing
def il181 : List (Nat × Instr × Nat) := [(0, .iload_n 1, 1), (1, .iconst 0, 1), (2, .aload_n 0, 1), (3, .invokevirtual 84, 3), (6, .iconst 1, 1), (7, .isub, 1), (8, .invokestatic 80, 3), (11, .ifCond .ne 7, 3), (14, .iconst 1, 1), (15, .goto 4, 3), (18, .iconst 0, 1), (19, .ireturn, 1)]
theorem dc181 : dcs (mC 181) il181 := dc_of (by decide +kernel)
def mo_noThing (v1 : Int) (M : MM) : OR :=
  (bI (mo_things  M) fun z_3 M_2 => (bI (mo_in v1 0 (z_3 - 1) M_2) fun z_6 M_5 => (bif cmpB .ne z_6 0 then some (rI 0, M_5) else some (rI 1, M_5))))
set_option maxRecDepth 4000 in
theorem mo_noThing_ok {Z : Nat × (Nat → Int)} {d : Nat} (hd : 1 ≤ d) {M : MM}  {v1 : Int} {res : AR × MM} (hf : mo_noThing v1 M = some res) : EX Z d 181 0 (ent 181 [vR 165, vI v1]) [] M res := by
  obtain ⟨e9, rfl⟩ : ∃ e9, d = e9 + 1 := ⟨d - 1, by omega⟩
  unfold mo_noThing at hf
  show EX Z _ 181 0 [vR 165, vI v1] [] M res
  refine ex_pu (ls' := [vR 165, vI v1]) (st' := [vI v1]) (dg dc181 0 rfl) rfl rfl ?_
  refine ex_pu (ls' := [vR 165, vI v1]) (st' := [vI 0, vI v1]) (dg dc181 1 rfl) rfl rfl ?_
  refine ex_pu (ls' := [vR 165, vI v1]) (st' := [vR 165, vI 0, vI v1]) (dg dc181 2 rfl) rfl rfl ?_
  refine ex_cI (vs := [vR 165]) (st' := [vI 0, vI v1]) (F := (mo_things  M)) (Or.inr (Or.inl ⟨rfl, (dg dc181 3 rfl)⟩)) rfl rfl (rk1 (LOC.st (Nat.le_of_ble_eq_true rfl) rfl) rfl) rfl (fun _ r9 => mo_things_ok (Z := Z) (d := e9) (by omega)  r9) hf (fun z_3 M_2 he_1 hf => ?_)
  refine ex_pu (ls' := [vR 165, vI v1]) (st' := [vI 1, vI z_3, vI 0, vI v1]) (dg dc181 4 rfl) rfl rfl ?_
  refine ex_pu (ls' := [vR 165, vI v1]) (st' := [vI (z_3 - 1), vI 0, vI v1]) (dg dc181 5 rfl) rfl rfl ?_
  refine ex_cI (vs := [vI v1, vI 0, vI (z_3 - 1)]) (st' := []) (F := (mo_in v1 0 (z_3 - 1) M_2)) (Or.inl ⟨rfl, (dg dc181 6 rfl)⟩) rfl rfl (Or.inl rfl) rfl (fun _ r9 => mo_in_ok (Z := Z) (d := e9) (by omega)  r9) hf (fun z_6 M_5 he_4 hf => ?_)
  refine ex_if (t := 18) (dg dc181 7 rfl) rfl hf (fun _ hf => ?_) (fun _ hf => ?_)
  · refine ex_pu (ls' := [vR 165, vI v1]) (st' := [vI 0]) (dg dc181 10 rfl) rfl rfl ?_
    exact ex_ire (dg dc181 11 rfl) rfl hf
  · refine ex_pu (ls' := [vR 165, vI v1]) (st' := [vI 1]) (dg dc181 8 rfl) rfl rfl ?_
    refine ex_goto (t := 19) (dg dc181 9 rfl) rfl rfl ?_
    exact ex_ire (dg dc181 11 rfl) rfl hf
-- GlassHillModel.noRoad
def il182 : List (Nat × Instr × Nat) := [(0, .iload_n 1, 1), (1, .iconst 0, 1), (2, .aload_n 0, 1), (3, .invokevirtual 87, 3), (6, .iconst 1, 1), (7, .isub, 1), (8, .invokestatic 80, 3), (11, .ifCond .ne 7, 3), (14, .iconst 1, 1), (15, .goto 4, 3), (18, .iconst 0, 1), (19, .ireturn, 1)]
theorem dc182 : dcs (mC 182) il182 := dc_of (by decide +kernel)
def mo_noRoad (v1 : Int) (M : MM) : OR :=
  (bI (mo_roads  M) fun z_3 M_2 => (bI (mo_in v1 0 (z_3 - 1) M_2) fun z_6 M_5 => (bif cmpB .ne z_6 0 then some (rI 0, M_5) else some (rI 1, M_5))))
set_option maxRecDepth 4000 in
theorem mo_noRoad_ok {Z : Nat × (Nat → Int)} {d : Nat} (hd : 1 ≤ d) {M : MM}  {v1 : Int} {res : AR × MM} (hf : mo_noRoad v1 M = some res) : EX Z d 182 0 (ent 182 [vR 165, vI v1]) [] M res := by
  obtain ⟨e9, rfl⟩ : ∃ e9, d = e9 + 1 := ⟨d - 1, by omega⟩
  unfold mo_noRoad at hf
  show EX Z _ 182 0 [vR 165, vI v1] [] M res
  refine ex_pu (ls' := [vR 165, vI v1]) (st' := [vI v1]) (dg dc182 0 rfl) rfl rfl ?_
  refine ex_pu (ls' := [vR 165, vI v1]) (st' := [vI 0, vI v1]) (dg dc182 1 rfl) rfl rfl ?_
  refine ex_pu (ls' := [vR 165, vI v1]) (st' := [vR 165, vI 0, vI v1]) (dg dc182 2 rfl) rfl rfl ?_
  refine ex_cI (vs := [vR 165]) (st' := [vI 0, vI v1]) (F := (mo_roads  M)) (Or.inr (Or.inl ⟨rfl, (dg dc182 3 rfl)⟩)) rfl rfl (rk1 (LOC.st (Nat.le_of_ble_eq_true rfl) rfl) rfl) rfl (fun _ r9 => mo_roads_ok (Z := Z) (d := e9) (by omega)  r9) hf (fun z_3 M_2 he_1 hf => ?_)
  refine ex_pu (ls' := [vR 165, vI v1]) (st' := [vI 1, vI z_3, vI 0, vI v1]) (dg dc182 4 rfl) rfl rfl ?_
  refine ex_pu (ls' := [vR 165, vI v1]) (st' := [vI (z_3 - 1), vI 0, vI v1]) (dg dc182 5 rfl) rfl rfl ?_
  refine ex_cI (vs := [vI v1, vI 0, vI (z_3 - 1)]) (st' := []) (F := (mo_in v1 0 (z_3 - 1) M_2)) (Or.inl ⟨rfl, (dg dc182 6 rfl)⟩) rfl rfl (Or.inl rfl) rfl (fun _ r9 => mo_in_ok (Z := Z) (d := e9) (by omega)  r9) hf (fun z_6 M_5 he_4 hf => ?_)
  refine ex_if (t := 18) (dg dc182 7 rfl) rfl hf (fun _ hf => ?_) (fun _ hf => ?_)
  · refine ex_pu (ls' := [vR 165, vI v1]) (st' := [vI 0]) (dg dc182 10 rfl) rfl rfl ?_
    exact ex_ire (dg dc182 11 rfl) rfl hf
  · refine ex_pu (ls' := [vR 165, vI v1]) (st' := [vI 1]) (dg dc182 8 rfl) rfl rfl ?_
    refine ex_goto (t := 19) (dg dc182 9 rfl) rfl rfl ?_
    exact ex_ire (dg dc182 11 rfl) rfl hf
-- GlassHillModel.noBrother
def il183 : List (Nat × Instr × Nat) := [(0, .iload_n 1, 1), (1, .iconst 0, 1), (2, .aload_n 0, 1), (3, .invokevirtual 90, 3), (6, .iconst 1, 1), (7, .isub, 1), (8, .invokestatic 80, 3), (11, .ifCond .ne 7, 3), (14, .iconst 1, 1), (15, .goto 4, 3), (18, .iconst 0, 1), (19, .ireturn, 1)]
theorem dc183 : dcs (mC 183) il183 := dc_of (by decide +kernel)
def mo_noBrother (v1 : Int) (M : MM) : OR :=
  (bI (mo_brothers  M) fun z_3 M_2 => (bI (mo_in v1 0 (z_3 - 1) M_2) fun z_6 M_5 => (bif cmpB .ne z_6 0 then some (rI 0, M_5) else some (rI 1, M_5))))
set_option maxRecDepth 4000 in
theorem mo_noBrother_ok {Z : Nat × (Nat → Int)} {d : Nat} (hd : 1 ≤ d) {M : MM}  {v1 : Int} {res : AR × MM} (hf : mo_noBrother v1 M = some res) : EX Z d 183 0 (ent 183 [vR 165, vI v1]) [] M res := by
  obtain ⟨e9, rfl⟩ : ∃ e9, d = e9 + 1 := ⟨d - 1, by omega⟩
  unfold mo_noBrother at hf
  show EX Z _ 183 0 [vR 165, vI v1] [] M res
  refine ex_pu (ls' := [vR 165, vI v1]) (st' := [vI v1]) (dg dc183 0 rfl) rfl rfl ?_
  refine ex_pu (ls' := [vR 165, vI v1]) (st' := [vI 0, vI v1]) (dg dc183 1 rfl) rfl rfl ?_
  refine ex_pu (ls' := [vR 165, vI v1]) (st' := [vR 165, vI 0, vI v1]) (dg dc183 2 rfl) rfl rfl ?_
  refine ex_cI (vs := [vR 165]) (st' := [vI 0, vI v1]) (F := (mo_brothers  M)) (Or.inr (Or.inl ⟨rfl, (dg dc183 3 rfl)⟩)) rfl rfl (rk1 (LOC.st (Nat.le_of_ble_eq_true rfl) rfl) rfl) rfl (fun _ r9 => mo_brothers_ok (Z := Z) (d := e9) (by omega)  r9) hf (fun z_3 M_2 he_1 hf => ?_)
  refine ex_pu (ls' := [vR 165, vI v1]) (st' := [vI 1, vI z_3, vI 0, vI v1]) (dg dc183 4 rfl) rfl rfl ?_
  refine ex_pu (ls' := [vR 165, vI v1]) (st' := [vI (z_3 - 1), vI 0, vI v1]) (dg dc183 5 rfl) rfl rfl ?_
  refine ex_cI (vs := [vI v1, vI 0, vI (z_3 - 1)]) (st' := []) (F := (mo_in v1 0 (z_3 - 1) M_2)) (Or.inl ⟨rfl, (dg dc183 6 rfl)⟩) rfl rfl (Or.inl rfl) rfl (fun _ r9 => mo_in_ok (Z := Z) (d := e9) (by omega)  r9) hf (fun z_6 M_5 he_4 hf => ?_)
  refine ex_if (t := 18) (dg dc183 7 rfl) rfl hf (fun _ hf => ?_) (fun _ hf => ?_)
  · refine ex_pu (ls' := [vR 165, vI v1]) (st' := [vI 0]) (dg dc183 10 rfl) rfl rfl ?_
    exact ex_ire (dg dc183 11 rfl) rfl hf
  · refine ex_pu (ls' := [vR 165, vI v1]) (st' := [vI 1]) (dg dc183 8 rfl) rfl rfl ?_
    refine ex_goto (t := 19) (dg dc183 9 rfl) rfl rfl ?_
    exact ex_ire (dg dc183 11 rfl) rfl hf
-- GlassHillModel.feed
def il184 : List (Nat × Instr × Nat) := [(0, .aload_n 0, 1), (1, .iconst 0, 1), (2, .putfield 3, 3), (5, .aload_n 0, 1), (6, .getfield 93, 3), (9, .bipush 20, 2), (11, .iadd, 1), (12, .sipush 400, 3), (15, .if_icmp .le 5, 3), (18, .iconst (-1), 1), (19, .ireturn, 1), (20, .aload_n 0, 1), (21, .getfield 33, 3), (24, .iconst 0, 1), (25, .iload_n 1, 1), (26, .iastore, 1), (27, .aload_n 0, 1), (28, .getfield 33, 3), (31, .iconst 1, 1), (32, .iload_n 2, 1), (33, .iastore, 1), (34, .aload_n 0, 1), (35, .getfield 33, 3), (38, .iconst 2, 1), (39, .iload_n 3, 1), (40, .iastore, 1), (41, .aload_n 0, 1), (42, .getfield 33, 3), (45, .iconst 3, 1), (46, .iload 4, 2), (48, .iastore, 1), (49, .aload_n 0, 1), (50, .getfield 33, 3), (53, .iconst 4, 1), (54, .iload 5, 2), (56, .iastore, 1), (57, .iconst 0, 1), (58, .istore 6, 2), (60, .iload 6, 2), (62, .bipush 20, 2), (64, .if_icmp .ge 42, 3), (67, .aload_n 0, 1), (68, .getfield 26, 3), (71, .aload_n 0, 1), (72, .getfield 93, 3), (75, .iload 6, 2), (77, .iadd, 1), (78, .aload_n 0, 1), (79, .getfield 33, 3), (82, .iload 6, 2), (84, .iconst 4, 1), (85, .idiv, 1), (86, .iaload, 1), (87, .bipush 24, 2), (89, .bipush 8, 2), (91, .iload 6, 2), (93, .iconst 4, 1), (94, .irem, 1), (95, .imul, 1), (96, .isub, 1), (97, .ishr, 1), (98, .i2b, 1), (99, .bastore, 1), (100, .iinc 6 1, 3), (103, .goto (-43), 3), (106, .aload_n 0, 1), (107, .dup, 1), (108, .getfield 93, 3), (111, .bipush 20, 2), (113, .iadd, 1), (114, .putfield 93, 3), (117, .aload_n 0, 1), (118, .getfield 93, 3), (121, .ireturn, 1)]
theorem dc184 : dcs (mC 184) il184 := dc_of (by decide +kernel)
def mo_feed_L60  (K1 : MM → OR) : Nat → Int → MM → OR
  | 0, _, _ => none
  | n + 1, v6, M => (bif cmpB .ge v6 20 then (K1  M) else (bif inB ((w32 v6).tdiv (w32 4)) 5 then (bif inB ((M 165 8) + v6) 400 then (sM (mU M 170 (((M 165 8) + v6)).toNat (nB (iB (iShr (M 171 (((w32 v6).tdiv (w32 4))).toNat) (24 - (8 * ((w32 v6).tmod (w32 4)))))))) fun M_13 => (mo_feed_L60  K1 n (v6 + 1) M_13)) else none) else none))
set_option maxRecDepth 4000 in
theorem mo_feed_L60_ok {Z : Nat × (Nat → Int)} {d : Nat} (hd : 0 ≤ d)  {K1 : MM → OR} {res : AR × MM} (k1 : ∀ (M : MM) (j1 j2 j3 j4 j5 j6 : AV), K1  M = some res → EX Z d 184 106 [vR 165, j1, j2, j3, j4, j5, j6] [] M res) : ∀ (n : Nat) (v6 : Int) (M : MM) (j1 j2 j3 j4 j5 : AV), mo_feed_L60  K1 n v6 M = some res → EX Z d 184 60 [vR 165, j1, j2, j3, j4, j5, vI v6] [] M res := by
  intro n
  induction n with
  | zero =>
    intro v6 M j1 j2 j3 j4 j5 hf
    unfold mo_feed_L60 at hf
    cases hf
  | succ n ih =>
    intro v6 M j1 j2 j3 j4 j5 hf
    unfold mo_feed_L60 at hf
    refine ex_pu (ls' := [vR 165, j1, j2, j3, j4, j5, vI v6]) (st' := [vI v6]) (dg dc184 38 rfl) rfl rfl ?_
    refine ex_pu (ls' := [vR 165, j1, j2, j3, j4, j5, vI v6]) (st' := [vI 20, vI v6]) (dg dc184 39 rfl) rfl rfl ?_
    refine ex_icmp (t := 106) (dg dc184 40 rfl) rfl hf (fun _ hf => ?_) (fun _ hf => ?_)
    · exact k1  M _ _ _ _ _ _ hf
    · refine ex_pu (ls' := [vR 165, j1, j2, j3, j4, j5, vI v6]) (st' := [vR 165]) (dg dc184 41 rfl) rfl rfl ?_
      refine ex_getO (dg dc184 42 rfl) rfl (LOC.st (Nat.le_of_ble_eq_true rfl) rfl) rfl ?_
      show EX Z _ 184 _ [vR 165, j1, j2, j3, j4, j5, vI v6] [vR 170] _ _
      refine ex_pu (ls' := [vR 165, j1, j2, j3, j4, j5, vI v6]) (st' := [vR 165, vR 170]) (dg dc184 43 rfl) rfl rfl ?_
      refine ex_getI (dg dc184 44 rfl) rfl (LOC.st (Nat.le_of_ble_eq_true rfl) rfl) rfl ?_
      refine ex_pu (ls' := [vR 165, j1, j2, j3, j4, j5, vI v6]) (st' := [vI v6, vI (M 165 8), vR 170]) (dg dc184 45 rfl) rfl rfl ?_
      refine ex_pu (ls' := [vR 165, j1, j2, j3, j4, j5, vI v6]) (st' := [vI ((M 165 8) + v6), vR 170]) (dg dc184 46 rfl) rfl rfl ?_
      refine ex_pu (ls' := [vR 165, j1, j2, j3, j4, j5, vI v6]) (st' := [vR 165, vI ((M 165 8) + v6), vR 170]) (dg dc184 47 rfl) rfl rfl ?_
      refine ex_getO (dg dc184 48 rfl) rfl (LOC.st (Nat.le_of_ble_eq_true rfl) rfl) rfl ?_
      show EX Z _ 184 _ [vR 165, j1, j2, j3, j4, j5, vI v6] [vR 171, vI ((M 165 8) + v6), vR 170] _ _
      refine ex_pu (ls' := [vR 165, j1, j2, j3, j4, j5, vI v6]) (st' := [vI v6, vR 171, vI ((M 165 8) + v6), vR 170]) (dg dc184 49 rfl) rfl rfl ?_
      refine ex_pu (ls' := [vR 165, j1, j2, j3, j4, j5, vI v6]) (st' := [vI 4, vI v6, vR 171, vI ((M 165 8) + v6), vR 170]) (dg dc184 50 rfl) rfl rfl ?_
      refine ex_idiv (dg dc184 51 rfl) (by decide +kernel) ?_
      refine ex_iald (dg dc184 52 rfl) (LOC.st (Nat.le_of_ble_eq_true rfl) rfl) rfl hf (fun _ hf => ?_)
      refine ex_pu (ls' := [vR 165, j1, j2, j3, j4, j5, vI v6]) (st' := [vI 24, vI (M 171 (((w32 v6).tdiv (w32 4))).toNat), vI ((M 165 8) + v6), vR 170]) (dg dc184 53 rfl) rfl rfl ?_
      refine ex_pu (ls' := [vR 165, j1, j2, j3, j4, j5, vI v6]) (st' := [vI 8, vI 24, vI (M 171 (((w32 v6).tdiv (w32 4))).toNat), vI ((M 165 8) + v6), vR 170]) (dg dc184 54 rfl) rfl rfl ?_
      refine ex_pu (ls' := [vR 165, j1, j2, j3, j4, j5, vI v6]) (st' := [vI v6, vI 8, vI 24, vI (M 171 (((w32 v6).tdiv (w32 4))).toNat), vI ((M 165 8) + v6), vR 170]) (dg dc184 55 rfl) rfl rfl ?_
      refine ex_pu (ls' := [vR 165, j1, j2, j3, j4, j5, vI v6]) (st' := [vI 4, vI v6, vI 8, vI 24, vI (M 171 (((w32 v6).tdiv (w32 4))).toNat), vI ((M 165 8) + v6), vR 170]) (dg dc184 56 rfl) rfl rfl ?_
      refine ex_irem (dg dc184 57 rfl) (by decide +kernel) ?_
      refine ex_pu (ls' := [vR 165, j1, j2, j3, j4, j5, vI v6]) (st' := [vI (8 * ((w32 v6).tmod (w32 4))), vI 24, vI (M 171 (((w32 v6).tdiv (w32 4))).toNat), vI ((M 165 8) + v6), vR 170]) (dg dc184 58 rfl) rfl rfl ?_
      refine ex_pu (ls' := [vR 165, j1, j2, j3, j4, j5, vI v6]) (st' := [vI (24 - (8 * ((w32 v6).tmod (w32 4)))), vI (M 171 (((w32 v6).tdiv (w32 4))).toNat), vI ((M 165 8) + v6), vR 170]) (dg dc184 59 rfl) rfl rfl ?_
      refine ex_pu (ls' := [vR 165, j1, j2, j3, j4, j5, vI v6]) (st' := [vI (iShr (M 171 (((w32 v6).tdiv (w32 4))).toNat) (24 - (8 * ((w32 v6).tmod (w32 4))))), vI ((M 165 8) + v6), vR 170]) (dg dc184 60 rfl) rfl rfl ?_
      refine ex_pu (ls' := [vR 165, j1, j2, j3, j4, j5, vI v6]) (st' := [vI (iB (iShr (M 171 (((w32 v6).tdiv (w32 4))).toNat) (24 - (8 * ((w32 v6).tmod (w32 4)))))), vI ((M 165 8) + v6), vR 170]) (dg dc184 61 rfl) rfl rfl ?_
      refine ex_bast (dg dc184 62 rfl) (LOC.st (Nat.le_of_ble_eq_true rfl) rfl) rfl rfl hf (fun _ hf => ?_)
      refine ex_gen hf (fun M_13 hM_14 hf => ?_)
      refine ex_incD (dg dc184 63 rfl) rfl rfl (fun w_15 => ?_)
      show EX Z _ 184 _ [vR 165, j1, j2, j3, j4, w_15, vI (v6 + 1)] [] _ _
      refine ex_goto (t := 60) (dg dc184 64 rfl) rfl rfl ?_
      exact ih (v6 + 1) M_13 _ _ _ _ _ hf
def mo_feed (v1 : Int) (v2 : Int) (v3 : Int) (v4 : Int) (v5 : Int) (M : MM) : OR :=
  (sM (mU M 165 0 0) fun M_1 => (bif cmpB .le ((M_1 165 8) + 20) 400 then (bif inB 0 5 then (sM (mU M_1 171 0 v1) fun M_3 => (bif inB 1 5 then (sM (mU M_3 171 1 v2) fun M_5 => (bif inB 2 5 then (sM (mU M_5 171 2 v3) fun M_7 => (bif inB 3 5 then (sM (mU M_7 171 3 v4) fun M_9 => (bif inB 4 5 then (sM (mU M_9 171 4 v5) fun M_11 => (mo_feed_L60  (fun M_16 => (sM (mU M_16 165 8 ((M_16 165 8) + 20)) fun M_23 => some (rI (M_23 165 8), M_23))) FU 0 M_11)) else none)) else none)) else none)) else none)) else none) else some (rI (-1), M_1)))
set_option maxRecDepth 4000 in
theorem mo_feed_ok {Z : Nat × (Nat → Int)} {d : Nat} (hd : 0 ≤ d) {M : MM}  {v1 v2 v3 v4 v5 : Int} {res : AR × MM} (hf : mo_feed v1 v2 v3 v4 v5 M = some res) : EX Z d 184 0 (ent 184 [vR 165, vI v1, vI v2, vI v3, vI v4, vI v5]) [] M res := by
  unfold mo_feed at hf
  show EX Z _ 184 0 [vR 165, vI v1, vI v2, vI v3, vI v4, vI v5, vU] [] M res
  refine ex_pu (ls' := [vR 165, vI v1, vI v2, vI v3, vI v4, vI v5, vU]) (st' := [vR 165]) (dg dc184 0 rfl) rfl rfl ?_
  refine ex_pu (ls' := [vR 165, vI v1, vI v2, vI v3, vI v4, vI v5, vU]) (st' := [vI 0, vR 165]) (dg dc184 1 rfl) rfl rfl ?_
  refine ex_putI (dg dc184 2 rfl) rfl (LOC.st (Nat.le_of_ble_eq_true rfl) rfl) rfl rfl rfl ?_
  refine ex_gen hf (fun M_1 hM_2 hf => ?_)
  refine ex_pu (ls' := [vR 165, vI v1, vI v2, vI v3, vI v4, vI v5, vU]) (st' := [vR 165]) (dg dc184 3 rfl) rfl rfl ?_
  refine ex_getI (dg dc184 4 rfl) rfl (LOC.st (Nat.le_of_ble_eq_true rfl) rfl) rfl ?_
  refine ex_pu (ls' := [vR 165, vI v1, vI v2, vI v3, vI v4, vI v5, vU]) (st' := [vI 20, vI (M_1 165 8)]) (dg dc184 5 rfl) rfl rfl ?_
  refine ex_pu (ls' := [vR 165, vI v1, vI v2, vI v3, vI v4, vI v5, vU]) (st' := [vI ((M_1 165 8) + 20)]) (dg dc184 6 rfl) rfl rfl ?_
  refine ex_pu (ls' := [vR 165, vI v1, vI v2, vI v3, vI v4, vI v5, vU]) (st' := [vI 400, vI ((M_1 165 8) + 20)]) (dg dc184 7 rfl) rfl rfl ?_
  refine ex_icmp (t := 20) (dg dc184 8 rfl) rfl hf (fun _ hf => ?_) (fun _ hf => ?_)
  · refine ex_pu (ls' := [vR 165, vI v1, vI v2, vI v3, vI v4, vI v5, vU]) (st' := [vR 165]) (dg dc184 11 rfl) rfl rfl ?_
    refine ex_getO (dg dc184 12 rfl) rfl (LOC.st (Nat.le_of_ble_eq_true rfl) rfl) rfl ?_
    show EX Z _ 184 _ [vR 165, vI v1, vI v2, vI v3, vI v4, vI v5, vU] [vR 171] _ _
    refine ex_pu (ls' := [vR 165, vI v1, vI v2, vI v3, vI v4, vI v5, vU]) (st' := [vI 0, vR 171]) (dg dc184 13 rfl) rfl rfl ?_
    refine ex_pu (ls' := [vR 165, vI v1, vI v2, vI v3, vI v4, vI v5, vU]) (st' := [vI v1, vI 0, vR 171]) (dg dc184 14 rfl) rfl rfl ?_
    refine ex_iast (dg dc184 15 rfl) (LOC.st (Nat.le_of_ble_eq_true rfl) rfl) rfl rfl hf (fun _ hf => ?_)
    refine ex_gen hf (fun M_3 hM_4 hf => ?_)
    refine ex_pu (ls' := [vR 165, vI v1, vI v2, vI v3, vI v4, vI v5, vU]) (st' := [vR 165]) (dg dc184 16 rfl) rfl rfl ?_
    refine ex_getO (dg dc184 17 rfl) rfl (LOC.st (Nat.le_of_ble_eq_true rfl) rfl) rfl ?_
    show EX Z _ 184 _ [vR 165, vI v1, vI v2, vI v3, vI v4, vI v5, vU] [vR 171] _ _
    refine ex_pu (ls' := [vR 165, vI v1, vI v2, vI v3, vI v4, vI v5, vU]) (st' := [vI 1, vR 171]) (dg dc184 18 rfl) rfl rfl ?_
    refine ex_pu (ls' := [vR 165, vI v1, vI v2, vI v3, vI v4, vI v5, vU]) (st' := [vI v2, vI 1, vR 171]) (dg dc184 19 rfl) rfl rfl ?_
    refine ex_iast (dg dc184 20 rfl) (LOC.st (Nat.le_of_ble_eq_true rfl) rfl) rfl rfl hf (fun _ hf => ?_)
    refine ex_gen hf (fun M_5 hM_6 hf => ?_)
    refine ex_pu (ls' := [vR 165, vI v1, vI v2, vI v3, vI v4, vI v5, vU]) (st' := [vR 165]) (dg dc184 21 rfl) rfl rfl ?_
    refine ex_getO (dg dc184 22 rfl) rfl (LOC.st (Nat.le_of_ble_eq_true rfl) rfl) rfl ?_
    show EX Z _ 184 _ [vR 165, vI v1, vI v2, vI v3, vI v4, vI v5, vU] [vR 171] _ _
    refine ex_pu (ls' := [vR 165, vI v1, vI v2, vI v3, vI v4, vI v5, vU]) (st' := [vI 2, vR 171]) (dg dc184 23 rfl) rfl rfl ?_
    refine ex_pu (ls' := [vR 165, vI v1, vI v2, vI v3, vI v4, vI v5, vU]) (st' := [vI v3, vI 2, vR 171]) (dg dc184 24 rfl) rfl rfl ?_
    refine ex_iast (dg dc184 25 rfl) (LOC.st (Nat.le_of_ble_eq_true rfl) rfl) rfl rfl hf (fun _ hf => ?_)
    refine ex_gen hf (fun M_7 hM_8 hf => ?_)
    refine ex_pu (ls' := [vR 165, vI v1, vI v2, vI v3, vI v4, vI v5, vU]) (st' := [vR 165]) (dg dc184 26 rfl) rfl rfl ?_
    refine ex_getO (dg dc184 27 rfl) rfl (LOC.st (Nat.le_of_ble_eq_true rfl) rfl) rfl ?_
    show EX Z _ 184 _ [vR 165, vI v1, vI v2, vI v3, vI v4, vI v5, vU] [vR 171] _ _
    refine ex_pu (ls' := [vR 165, vI v1, vI v2, vI v3, vI v4, vI v5, vU]) (st' := [vI 3, vR 171]) (dg dc184 28 rfl) rfl rfl ?_
    refine ex_pu (ls' := [vR 165, vI v1, vI v2, vI v3, vI v4, vI v5, vU]) (st' := [vI v4, vI 3, vR 171]) (dg dc184 29 rfl) rfl rfl ?_
    refine ex_iast (dg dc184 30 rfl) (LOC.st (Nat.le_of_ble_eq_true rfl) rfl) rfl rfl hf (fun _ hf => ?_)
    refine ex_gen hf (fun M_9 hM_10 hf => ?_)
    refine ex_pu (ls' := [vR 165, vI v1, vI v2, vI v3, vI v4, vI v5, vU]) (st' := [vR 165]) (dg dc184 31 rfl) rfl rfl ?_
    refine ex_getO (dg dc184 32 rfl) rfl (LOC.st (Nat.le_of_ble_eq_true rfl) rfl) rfl ?_
    show EX Z _ 184 _ [vR 165, vI v1, vI v2, vI v3, vI v4, vI v5, vU] [vR 171] _ _
    refine ex_pu (ls' := [vR 165, vI v1, vI v2, vI v3, vI v4, vI v5, vU]) (st' := [vI 4, vR 171]) (dg dc184 33 rfl) rfl rfl ?_
    refine ex_pu (ls' := [vR 165, vI v1, vI v2, vI v3, vI v4, vI v5, vU]) (st' := [vI v5, vI 4, vR 171]) (dg dc184 34 rfl) rfl rfl ?_
    refine ex_iast (dg dc184 35 rfl) (LOC.st (Nat.le_of_ble_eq_true rfl) rfl) rfl rfl hf (fun _ hf => ?_)
    refine ex_gen hf (fun M_11 hM_12 hf => ?_)
    refine ex_pu (ls' := [vR 165, vI v1, vI v2, vI v3, vI v4, vI v5, vU]) (st' := [vI 0]) (dg dc184 36 rfl) rfl rfl ?_
    refine ex_pu (ls' := [vR 165, vI v1, vI v2, vI v3, vI v4, vI v5, vI 0]) (st' := []) (dg dc184 37 rfl) rfl rfl ?_
    refine mo_feed_L60_ok hd  ?_ FU 0 M_11 _ _ _ _ _ hf
    · intro M_16 j1_17 j2_18 j3_19 j4_20 j5_21 j6_22 hf
      refine ex_pu (ls' := [vR 165, j1_17, j2_18, j3_19, j4_20, j5_21, j6_22]) (st' := [vR 165]) (dg dc184 65 rfl) rfl rfl ?_
      refine ex_pu (ls' := [vR 165, j1_17, j2_18, j3_19, j4_20, j5_21, j6_22]) (st' := [vR 165, vR 165]) (dg dc184 66 rfl) rfl rfl ?_
      refine ex_getI (dg dc184 67 rfl) rfl (LOC.st (Nat.le_of_ble_eq_true rfl) rfl) rfl ?_
      refine ex_pu (ls' := [vR 165, j1_17, j2_18, j3_19, j4_20, j5_21, j6_22]) (st' := [vI 20, vI (M_16 165 8), vR 165]) (dg dc184 68 rfl) rfl rfl ?_
      refine ex_pu (ls' := [vR 165, j1_17, j2_18, j3_19, j4_20, j5_21, j6_22]) (st' := [vI ((M_16 165 8) + 20), vR 165]) (dg dc184 69 rfl) rfl rfl ?_
      refine ex_putI (dg dc184 70 rfl) rfl (LOC.st (Nat.le_of_ble_eq_true rfl) rfl) rfl rfl rfl ?_
      refine ex_gen hf (fun M_23 hM_24 hf => ?_)
      refine ex_pu (ls' := [vR 165, j1_17, j2_18, j3_19, j4_20, j5_21, j6_22]) (st' := [vR 165]) (dg dc184 71 rfl) rfl rfl ?_
      refine ex_getI (dg dc184 72 rfl) rfl (LOC.st (Nat.le_of_ble_eq_true rfl) rfl) rfl ?_
      exact ex_ire (dg dc184 73 rfl) rfl hf
  · refine ex_pu (ls' := [vR 165, vI v1, vI v2, vI v3, vI v4, vI v5, vU]) (st' := [vI (-1)]) (dg dc184 9 rfl) rfl rfl ?_
    exact ex_ire (dg dc184 10 rfl) rfl hf
-- GlassHillModel.end
def il185 : List (Nat × Instr × Nat) := [(0, .aload_n 0, 1), (1, .iconst 0, 1), (2, .putfield 3, 3), (5, .iload_n 1, 1), (6, .ifCond .lt 11, 3), (9, .iload_n 1, 1), (10, .aload_n 0, 1), (11, .getfield 93, 3), (14, .if_icmp .le 5, 3), (17, .iconst 0, 1), (18, .ireturn, 1), (19, .aload_n 0, 1), (20, .iload_n 1, 1), (21, .putfield 93, 3), (24, .iconst 1, 1), (25, .ireturn, 1)]
theorem dc185 : dcs (mC 185) il185 := dc_of (by decide +kernel)
def mo_end (v1 : Int) (M : MM) : OR :=
  (sM (mU M 165 0 0) fun M_1 => (bif cmpB .lt v1 0 then some (rI 0, M_1) else (bif cmpB .le v1 (M_1 165 8) then (sM (mU M_1 165 8 v1) fun M_3 => some (rI 1, M_3)) else some (rI 0, M_1))))
set_option maxRecDepth 4000 in
theorem mo_end_ok {Z : Nat × (Nat → Int)} {d : Nat} (hd : 0 ≤ d) {M : MM}  {v1 : Int} {res : AR × MM} (hf : mo_end v1 M = some res) : EX Z d 185 0 (ent 185 [vR 165, vI v1]) [] M res := by
  unfold mo_end at hf
  show EX Z _ 185 0 [vR 165, vI v1] [] M res
  refine ex_pu (ls' := [vR 165, vI v1]) (st' := [vR 165]) (dg dc185 0 rfl) rfl rfl ?_
  refine ex_pu (ls' := [vR 165, vI v1]) (st' := [vI 0, vR 165]) (dg dc185 1 rfl) rfl rfl ?_
  refine ex_putI (dg dc185 2 rfl) rfl (LOC.st (Nat.le_of_ble_eq_true rfl) rfl) rfl rfl rfl ?_
  refine ex_gen hf (fun M_1 hM_2 hf => ?_)
  refine ex_pu (ls' := [vR 165, vI v1]) (st' := [vI v1]) (dg dc185 3 rfl) rfl rfl ?_
  refine ex_if (t := 17) (dg dc185 4 rfl) rfl hf (fun _ hf => ?_) (fun _ hf => ?_)
  · refine ex_pu (ls' := [vR 165, vI v1]) (st' := [vI 0]) (dg dc185 9 rfl) rfl rfl ?_
    exact ex_ire (dg dc185 10 rfl) rfl hf
  · refine ex_pu (ls' := [vR 165, vI v1]) (st' := [vI v1]) (dg dc185 5 rfl) rfl rfl ?_
    refine ex_pu (ls' := [vR 165, vI v1]) (st' := [vR 165, vI v1]) (dg dc185 6 rfl) rfl rfl ?_
    refine ex_getI (dg dc185 7 rfl) rfl (LOC.st (Nat.le_of_ble_eq_true rfl) rfl) rfl ?_
    refine ex_icmp (t := 19) (dg dc185 8 rfl) rfl hf (fun _ hf => ?_) (fun _ hf => ?_)
    · refine ex_pu (ls' := [vR 165, vI v1]) (st' := [vR 165]) (dg dc185 11 rfl) rfl rfl ?_
      refine ex_pu (ls' := [vR 165, vI v1]) (st' := [vI v1, vR 165]) (dg dc185 12 rfl) rfl rfl ?_
      refine ex_putI (dg dc185 13 rfl) rfl (LOC.st (Nat.le_of_ble_eq_true rfl) rfl) rfl rfl rfl ?_
      refine ex_gen hf (fun M_3 hM_4 hf => ?_)
      refine ex_pu (ls' := [vR 165, vI v1]) (st' := [vI 1]) (dg dc185 14 rfl) rfl rfl ?_
      exact ex_ire (dg dc185 15 rfl) rfl hf
    · refine ex_pu (ls' := [vR 165, vI v1]) (st' := [vI 0]) (dg dc185 9 rfl) rfl rfl ?_
      exact ex_ire (dg dc185 10 rfl) rfl hf
-- GlassHillModel.isAt
def il186 : List (Nat × Instr × Nat) := [(0, .aload_n 0, 1), (1, .getfield 96, 3), (4, .aload_n 0, 1), (5, .getfield 99, 3), (8, .if_icmp .ge 33, 3), (11, .aload_n 0, 1), (12, .getfield 26, 3), (15, .aload_n 0, 1), (16, .getfield 96, 3), (19, .baload, 1), (20, .iload_n 1, 1), (21, .if_icmp .lt 20, 3), (24, .aload_n 0, 1), (25, .getfield 26, 3), (28, .aload_n 0, 1), (29, .getfield 96, 3), (32, .baload, 1), (33, .iload_n 2, 1), (34, .if_icmp .gt 7, 3), (37, .iconst 1, 1), (38, .goto 4, 3), (41, .iconst 0, 1), (42, .ireturn, 1)]
theorem dc186 : dcs (mC 186) il186 := dc_of (by decide +kernel)
def mo_isAt (v1 : Int) (v2 : Int) (M : MM) : OR :=
  (bif cmpB .ge (M 165 9) (M 165 10) then some (rI 0, M) else (bif inB (M 165 9) 400 then (bif cmpB .lt (M 170 ((M 165 9)).toNat) v1 then some (rI 0, M) else (bif inB (M 165 9) 400 then (bif cmpB .gt (M 170 ((M 165 9)).toNat) v2 then some (rI 0, M) else some (rI 1, M)) else none)) else none))
set_option maxRecDepth 4000 in
theorem mo_isAt_ok {Z : Nat × (Nat → Int)} {d : Nat} (hd : 0 ≤ d) {M : MM}  {v1 v2 : Int} {res : AR × MM} (hf : mo_isAt v1 v2 M = some res) : EX Z d 186 0 (ent 186 [vR 165, vI v1, vI v2]) [] M res := by
  unfold mo_isAt at hf
  show EX Z _ 186 0 [vR 165, vI v1, vI v2] [] M res
  refine ex_pu (ls' := [vR 165, vI v1, vI v2]) (st' := [vR 165]) (dg dc186 0 rfl) rfl rfl ?_
  refine ex_getI (dg dc186 1 rfl) rfl (LOC.st (Nat.le_of_ble_eq_true rfl) rfl) rfl ?_
  refine ex_pu (ls' := [vR 165, vI v1, vI v2]) (st' := [vR 165, vI (M 165 9)]) (dg dc186 2 rfl) rfl rfl ?_
  refine ex_getI (dg dc186 3 rfl) rfl (LOC.st (Nat.le_of_ble_eq_true rfl) rfl) rfl ?_
  refine ex_icmp (t := 41) (dg dc186 4 rfl) rfl hf (fun _ hf => ?_) (fun _ hf => ?_)
  · refine ex_pu (ls' := [vR 165, vI v1, vI v2]) (st' := [vI 0]) (dg dc186 21 rfl) rfl rfl ?_
    exact ex_ire (dg dc186 22 rfl) rfl hf
  · refine ex_pu (ls' := [vR 165, vI v1, vI v2]) (st' := [vR 165]) (dg dc186 5 rfl) rfl rfl ?_
    refine ex_getO (dg dc186 6 rfl) rfl (LOC.st (Nat.le_of_ble_eq_true rfl) rfl) rfl ?_
    show EX Z _ 186 _ [vR 165, vI v1, vI v2] [vR 170] _ _
    refine ex_pu (ls' := [vR 165, vI v1, vI v2]) (st' := [vR 165, vR 170]) (dg dc186 7 rfl) rfl rfl ?_
    refine ex_getI (dg dc186 8 rfl) rfl (LOC.st (Nat.le_of_ble_eq_true rfl) rfl) rfl ?_
    refine ex_bald (dg dc186 9 rfl) (LOC.st (Nat.le_of_ble_eq_true rfl) rfl) rfl hf (fun _ hf => ?_)
    refine ex_pu (ls' := [vR 165, vI v1, vI v2]) (st' := [vI v1, vI (M 170 ((M 165 9)).toNat)]) (dg dc186 10 rfl) rfl rfl ?_
    refine ex_icmp (t := 41) (dg dc186 11 rfl) rfl hf (fun _ hf => ?_) (fun _ hf => ?_)
    · refine ex_pu (ls' := [vR 165, vI v1, vI v2]) (st' := [vI 0]) (dg dc186 21 rfl) rfl rfl ?_
      exact ex_ire (dg dc186 22 rfl) rfl hf
    · refine ex_pu (ls' := [vR 165, vI v1, vI v2]) (st' := [vR 165]) (dg dc186 12 rfl) rfl rfl ?_
      refine ex_getO (dg dc186 13 rfl) rfl (LOC.st (Nat.le_of_ble_eq_true rfl) rfl) rfl ?_
      show EX Z _ 186 _ [vR 165, vI v1, vI v2] [vR 170] _ _
      refine ex_pu (ls' := [vR 165, vI v1, vI v2]) (st' := [vR 165, vR 170]) (dg dc186 14 rfl) rfl rfl ?_
      refine ex_getI (dg dc186 15 rfl) rfl (LOC.st (Nat.le_of_ble_eq_true rfl) rfl) rfl ?_
      refine ex_bald (dg dc186 16 rfl) (LOC.st (Nat.le_of_ble_eq_true rfl) rfl) rfl hf (fun _ hf => ?_)
      refine ex_pu (ls' := [vR 165, vI v1, vI v2]) (st' := [vI v2, vI (M 170 ((M 165 9)).toNat)]) (dg dc186 17 rfl) rfl rfl ?_
      refine ex_icmp (t := 41) (dg dc186 18 rfl) rfl hf (fun _ hf => ?_) (fun _ hf => ?_)
      · refine ex_pu (ls' := [vR 165, vI v1, vI v2]) (st' := [vI 0]) (dg dc186 21 rfl) rfl rfl ?_
        exact ex_ire (dg dc186 22 rfl) rfl hf
      · refine ex_pu (ls' := [vR 165, vI v1, vI v2]) (st' := [vI 1]) (dg dc186 19 rfl) rfl rfl ?_
        refine ex_goto (t := 42) (dg dc186 20 rfl) rfl rfl ?_
        exact ex_ire (dg dc186 22 rfl) rfl hf
-- GlassHillModel.blanks
def il187 : List (Nat × Instr × Nat) := [(0, .aload_n 0, 1), (1, .bipush 32, 2), (3, .bipush 32, 2), (5, .invokevirtual 102, 3), (8, .ifCond .eq 16, 3), (11, .aload_n 0, 1), (12, .dup, 1), (13, .getfield 96, 3), (16, .iconst 1, 1), (17, .iadd, 1), (18, .putfield 96, 3), (21, .goto (-21), 3), (24, .aload_n 0, 1), (25, .aload_n 0, 1), (26, .getfield 96, 3), (29, .putfield 106, 3), (32, .return_, 1)]
theorem dc187 : dcs (mC 187) il187 := dc_of (by decide +kernel)
def mo_blanks_L0  (K1 : MM → OR) : Nat → MM → OR
  | 0, _ => none
  | n + 1, M => (bI (mo_isAt 32 32 M) fun z_10 M_9 => (bif cmpB .eq z_10 0 then (K1  M_9) else (sM (mU M_9 165 9 ((M_9 165 9) + 1)) fun M_11 => (mo_blanks_L0  K1 n  M_11))))
set_option maxRecDepth 4000 in
theorem mo_blanks_L0_ok {Z : Nat × (Nat → Int)} {d : Nat} (hd : 1 ≤ d)  {K1 : MM → OR} {res : AR × MM} (k1 : ∀ (M : MM), K1  M = some res → EX Z d 187 24 [vR 165] [] M res) : ∀ (n : Nat) (M : MM), mo_blanks_L0  K1 n  M = some res → EX Z d 187 0 [vR 165] [] M res := by
  obtain ⟨e9, rfl⟩ : ∃ e9, d = e9 + 1 := ⟨d - 1, by omega⟩
  intro n
  induction n with
  | zero =>
    intro M hf
    unfold mo_blanks_L0 at hf
    cases hf
  | succ n ih =>
    intro M hf
    unfold mo_blanks_L0 at hf
    refine ex_pu (ls' := [vR 165]) (st' := [vR 165]) (dg dc187 0 rfl) rfl rfl ?_
    refine ex_pu (ls' := [vR 165]) (st' := [vI 32, vR 165]) (dg dc187 1 rfl) rfl rfl ?_
    refine ex_pu (ls' := [vR 165]) (st' := [vI 32, vI 32, vR 165]) (dg dc187 2 rfl) rfl rfl ?_
    refine ex_cI (vs := [vR 165, vI 32, vI 32]) (st' := []) (F := (mo_isAt 32 32 M)) (Or.inr (Or.inl ⟨rfl, (dg dc187 3 rfl)⟩)) rfl rfl (rk1 (LOC.st (Nat.le_of_ble_eq_true rfl) rfl) rfl) rfl (fun _ r9 => mo_isAt_ok (Z := Z) (d := e9) (by omega)  r9) hf (fun z_10 M_9 he_8 hf => ?_)
    refine ex_if (t := 24) (dg dc187 4 rfl) rfl hf (fun _ hf => ?_) (fun _ hf => ?_)
    · exact k1  M_9 hf
    · refine ex_pu (ls' := [vR 165]) (st' := [vR 165]) (dg dc187 5 rfl) rfl rfl ?_
      refine ex_pu (ls' := [vR 165]) (st' := [vR 165, vR 165]) (dg dc187 6 rfl) rfl rfl ?_
      refine ex_getI (dg dc187 7 rfl) rfl (LOC.st (Nat.le_of_ble_eq_true rfl) rfl) rfl ?_
      refine ex_pu (ls' := [vR 165]) (st' := [vI 1, vI (M_9 165 9), vR 165]) (dg dc187 8 rfl) rfl rfl ?_
      refine ex_pu (ls' := [vR 165]) (st' := [vI ((M_9 165 9) + 1), vR 165]) (dg dc187 9 rfl) rfl rfl ?_
      refine ex_putI (dg dc187 10 rfl) rfl (LOC.st (Nat.le_of_ble_eq_true rfl) rfl) rfl rfl rfl ?_
      refine ex_gen hf (fun M_11 hM_12 hf => ?_)
      refine ex_goto (t := 0) (dg dc187 11 rfl) rfl rfl ?_
      exact ih  M_11 hf
def mo_blanks  (M : MM) : OR :=
  (bI (mo_isAt 32 32 M) fun z_3 M_2 => (bif cmpB .eq z_3 0 then (sM (mU M_2 165 11 (M_2 165 9)) fun M_4 => some (rV, M_4)) else (sM (mU M_2 165 9 ((M_2 165 9) + 1)) fun M_6 => (mo_blanks_L0  (fun M_13 => (sM (mU M_13 165 11 (M_13 165 9)) fun M_14 => some (rV, M_14))) FU  M_6))))
set_option maxRecDepth 4000 in
theorem mo_blanks_ok {Z : Nat × (Nat → Int)} {d : Nat} (hd : 1 ≤ d) {M : MM}  {res : AR × MM} (hf : mo_blanks  M = some res) : EX Z d 187 0 (ent 187 [vR 165]) [] M res := by
  obtain ⟨e9, rfl⟩ : ∃ e9, d = e9 + 1 := ⟨d - 1, by omega⟩
  unfold mo_blanks at hf
  show EX Z _ 187 0 [vR 165] [] M res
  refine ex_pu (ls' := [vR 165]) (st' := [vR 165]) (dg dc187 0 rfl) rfl rfl ?_
  refine ex_pu (ls' := [vR 165]) (st' := [vI 32, vR 165]) (dg dc187 1 rfl) rfl rfl ?_
  refine ex_pu (ls' := [vR 165]) (st' := [vI 32, vI 32, vR 165]) (dg dc187 2 rfl) rfl rfl ?_
  refine ex_cI (vs := [vR 165, vI 32, vI 32]) (st' := []) (F := (mo_isAt 32 32 M)) (Or.inr (Or.inl ⟨rfl, (dg dc187 3 rfl)⟩)) rfl rfl (rk1 (LOC.st (Nat.le_of_ble_eq_true rfl) rfl) rfl) rfl (fun _ r9 => mo_isAt_ok (Z := Z) (d := e9) (by omega)  r9) hf (fun z_3 M_2 he_1 hf => ?_)
  refine ex_if (t := 24) (dg dc187 4 rfl) rfl hf (fun _ hf => ?_) (fun _ hf => ?_)
  · refine ex_pu (ls' := [vR 165]) (st' := [vR 165]) (dg dc187 12 rfl) rfl rfl ?_
    refine ex_pu (ls' := [vR 165]) (st' := [vR 165, vR 165]) (dg dc187 13 rfl) rfl rfl ?_
    refine ex_getI (dg dc187 14 rfl) rfl (LOC.st (Nat.le_of_ble_eq_true rfl) rfl) rfl ?_
    refine ex_putI (dg dc187 15 rfl) rfl (LOC.st (Nat.le_of_ble_eq_true rfl) rfl) rfl rfl rfl ?_
    refine ex_gen hf (fun M_4 hM_5 hf => ?_)
    exact ex_vre (dg dc187 16 rfl) rfl hf
  · refine ex_pu (ls' := [vR 165]) (st' := [vR 165]) (dg dc187 5 rfl) rfl rfl ?_
    refine ex_pu (ls' := [vR 165]) (st' := [vR 165, vR 165]) (dg dc187 6 rfl) rfl rfl ?_
    refine ex_getI (dg dc187 7 rfl) rfl (LOC.st (Nat.le_of_ble_eq_true rfl) rfl) rfl ?_
    refine ex_pu (ls' := [vR 165]) (st' := [vI 1, vI (M_2 165 9), vR 165]) (dg dc187 8 rfl) rfl rfl ?_
    refine ex_pu (ls' := [vR 165]) (st' := [vI ((M_2 165 9) + 1), vR 165]) (dg dc187 9 rfl) rfl rfl ?_
    refine ex_putI (dg dc187 10 rfl) rfl (LOC.st (Nat.le_of_ble_eq_true rfl) rfl) rfl rfl rfl ?_
    refine ex_gen hf (fun M_6 hM_7 hf => ?_)
    refine ex_goto (t := 0) (dg dc187 11 rfl) rfl rfl ?_
    refine mo_blanks_L0_ok hd  ?_ FU  M_6 hf
    · intro M_13 hf
      refine ex_pu (ls' := [vR 165]) (st' := [vR 165]) (dg dc187 12 rfl) rfl rfl ?_
      refine ex_pu (ls' := [vR 165]) (st' := [vR 165, vR 165]) (dg dc187 13 rfl) rfl rfl ?_
      refine ex_getI (dg dc187 14 rfl) rfl (LOC.st (Nat.le_of_ble_eq_true rfl) rfl) rfl ?_
      refine ex_putI (dg dc187 15 rfl) rfl (LOC.st (Nat.le_of_ble_eq_true rfl) rfl) rfl rfl rfl ?_
      refine ex_gen hf (fun M_14 hM_15 hf => ?_)
      exact ex_vre (dg dc187 16 rfl) rfl hf
-- GlassHillModel.letters
def il188 : List (Nat × Instr × Nat) := [(0, .aload_n 0, 1), (1, .invokevirtual 109, 3), (4, .aload_n 0, 1), (5, .bipush 97, 2), (7, .bipush 122, 2), (9, .invokevirtual 102, 3), (12, .ifCond .eq 16, 3), (15, .aload_n 0, 1), (16, .dup, 1), (17, .getfield 96, 3), (20, .iconst 1, 1), (21, .iadd, 1), (22, .putfield 96, 3), (25, .goto (-21), 3), (28, .return_, 1)]
theorem dc188 : dcs (mC 188) il188 := dc_of (by decide +kernel)
def mo_letters_L4  (K1 : MM → OR) : Nat → MM → OR
  | 0, _ => none
  | n + 1, M => (bI (mo_isAt 97 122 M) fun z_6 M_5 => (bif cmpB .eq z_6 0 then (K1  M_5) else (sM (mU M_5 165 9 ((M_5 165 9) + 1)) fun M_7 => (mo_letters_L4  K1 n  M_7))))
set_option maxRecDepth 4000 in
theorem mo_letters_L4_ok {Z : Nat × (Nat → Int)} {d : Nat} (hd : 2 ≤ d)  {K1 : MM → OR} {res : AR × MM} (k1 : ∀ (M : MM) (j0 : AV), K1  M = some res → EX Z d 188 28 [j0] [] M res) : ∀ (n : Nat) (M : MM), mo_letters_L4  K1 n  M = some res → EX Z d 188 4 [vR 165] [] M res := by
  obtain ⟨e9, rfl⟩ : ∃ e9, d = e9 + 1 := ⟨d - 1, by omega⟩
  intro n
  induction n with
  | zero =>
    intro M hf
    unfold mo_letters_L4 at hf
    cases hf
  | succ n ih =>
    intro M hf
    unfold mo_letters_L4 at hf
    refine ex_pu (ls' := [vR 165]) (st' := [vR 165]) (dg dc188 2 rfl) rfl rfl ?_
    refine ex_pu (ls' := [vR 165]) (st' := [vI 97, vR 165]) (dg dc188 3 rfl) rfl rfl ?_
    refine ex_pu (ls' := [vR 165]) (st' := [vI 122, vI 97, vR 165]) (dg dc188 4 rfl) rfl rfl ?_
    refine ex_cI (vs := [vR 165, vI 97, vI 122]) (st' := []) (F := (mo_isAt 97 122 M)) (Or.inr (Or.inl ⟨rfl, (dg dc188 5 rfl)⟩)) rfl rfl (rk1 (LOC.st (Nat.le_of_ble_eq_true rfl) rfl) rfl) rfl (fun _ r9 => mo_isAt_ok (Z := Z) (d := e9) (by omega)  r9) hf (fun z_6 M_5 he_4 hf => ?_)
    refine ex_if (t := 28) (dg dc188 6 rfl) rfl hf (fun _ hf => ?_) (fun _ hf => ?_)
    · exact k1  M_5 _ hf
    · refine ex_pu (ls' := [vR 165]) (st' := [vR 165]) (dg dc188 7 rfl) rfl rfl ?_
      refine ex_pu (ls' := [vR 165]) (st' := [vR 165, vR 165]) (dg dc188 8 rfl) rfl rfl ?_
      refine ex_getI (dg dc188 9 rfl) rfl (LOC.st (Nat.le_of_ble_eq_true rfl) rfl) rfl ?_
      refine ex_pu (ls' := [vR 165]) (st' := [vI 1, vI (M_5 165 9), vR 165]) (dg dc188 10 rfl) rfl rfl ?_
      refine ex_pu (ls' := [vR 165]) (st' := [vI ((M_5 165 9) + 1), vR 165]) (dg dc188 11 rfl) rfl rfl ?_
      refine ex_putI (dg dc188 12 rfl) rfl (LOC.st (Nat.le_of_ble_eq_true rfl) rfl) rfl rfl rfl ?_
      refine ex_gen hf (fun M_7 hM_8 hf => ?_)
      refine ex_goto (t := 4) (dg dc188 13 rfl) rfl rfl ?_
      exact ih  M_7 hf
def mo_letters  (M : MM) : OR :=
  (bV (mo_blanks  M) fun M_2 => (mo_letters_L4  (fun M_9 => some (rV, M_9)) FU  M_2))
set_option maxRecDepth 4000 in
theorem mo_letters_ok {Z : Nat × (Nat → Int)} {d : Nat} (hd : 2 ≤ d) {M : MM}  {res : AR × MM} (hf : mo_letters  M = some res) : EX Z d 188 0 (ent 188 [vR 165]) [] M res := by
  obtain ⟨e9, rfl⟩ : ∃ e9, d = e9 + 1 := ⟨d - 1, by omega⟩
  unfold mo_letters at hf
  show EX Z _ 188 0 [vR 165] [] M res
  refine ex_pu (ls' := [vR 165]) (st' := [vR 165]) (dg dc188 0 rfl) rfl rfl ?_
  refine ex_cV (vs := [vR 165]) (st' := []) (F := (mo_blanks  M)) (Or.inr (Or.inl ⟨rfl, (dg dc188 1 rfl)⟩)) rfl rfl (rk1 (LOC.st (Nat.le_of_ble_eq_true rfl) rfl) rfl) rfl (fun _ r9 => mo_blanks_ok (Z := Z) (d := e9) (by omega)  r9) hf (fun M_2 he_1 hf => ?_)
  refine mo_letters_L4_ok hd  ?_ FU  M_2 hf
  · intro M_9 j0_10 hf
    exact ex_vre (dg dc188 14 rfl) rfl hf
-- GlassHillModel.isWord
def il189 : List (Nat × Instr × Nat) := [(0, .aload_n 0, 1), (1, .getfield 96, 3), (4, .aload_n 0, 1), (5, .getfield 106, 3), (8, .isub, 1), (9, .aload_n 1, 1), (10, .invokevirtual 112, 3), (13, .if_icmp .ne 7, 3), (16, .iconst 1, 1), (17, .goto 4, 3), (20, .iconst 0, 1), (21, .istore_n 2, 1), (22, .iconst 0, 1), (23, .istore_n 3, 1), (24, .iload_n 2, 1), (25, .ifCond .eq 42, 3), (28, .iload_n 3, 1), (29, .aload_n 1, 1), (30, .invokevirtual 112, 3), (33, .if_icmp .ge 34, 3), (36, .aload_n 0, 1), (37, .getfield 26, 3), (40, .aload_n 0, 1), (41, .getfield 106, 3), (44, .iload_n 3, 1), (45, .iadd, 1), (46, .baload, 1), (47, .aload_n 1, 1), (48, .iload_n 3, 1), (49, .invokevirtual 117, 3), (52, .if_icmp .ne 7, 3), (55, .iconst 1, 1), (56, .goto 4, 3), (59, .iconst 0, 1), (60, .istore_n 2, 1), (61, .iinc 3 1, 3), (64, .goto (-40), 3), (67, .iload_n 2, 1), (68, .ireturn, 1)]
theorem dc189 : dcs (mC 189) il189 := dc_of (by decide +kernel)
def mo_isWord_L24 (t1 : Nat) (K1 : Int → MM → OR) : Nat → Int → Int → MM → OR
  | 0, _, _, _ => none
  | n + 1, v2, v3, M => (bif cmpB .eq v2 0 then (K1 v2 M) else (bI (jdk_length t1 M) fun z_6 M_5 => (bif cmpB .ge v3 z_6 then (K1 v2 M_5) else (bif inB ((M_5 165 11) + v3) 400 then (bI (jdk_charAt t1 v3 M_5) fun z_9 M_8 => (bif cmpB .ne (M_5 170 (((M_5 165 11) + v3)).toNat) z_9 then (mo_isWord_L24 t1 K1 n 0 (v3 + 1) M_8) else (mo_isWord_L24 t1 K1 n 1 (v3 + 1) M_8))) else none))))
set_option maxRecDepth 4000 in
theorem mo_isWord_L24_ok {Z : Nat × (Nat → Int)} {d : Nat} (hd : 4 ≤ d) {t1 : Nat} (ht1 : t1 < 79) {K1 : Int → MM → OR} {res : AR × MM} (k1 : ∀ (x2 : Int) (M : MM) (j0 j1 j3 : AV), K1 x2 M = some res → EX Z d 189 67 [j0, j1, vI x2, j3] [] M res) : ∀ (n : Nat) (v2 v3 : Int) (M : MM), mo_isWord_L24 t1 K1 n v2 v3 M = some res → EX Z d 189 24 [vR 165, vR (E0 + 2 + 2 * t1), vI v2, vI v3] [] M res := by
  obtain ⟨e9, rfl⟩ : ∃ e9, d = e9 + 1 := ⟨d - 1, by omega⟩
  intro n
  induction n with
  | zero =>
    intro v2 v3 M hf
    unfold mo_isWord_L24 at hf
    cases hf
  | succ n ih =>
    intro v2 v3 M hf
    unfold mo_isWord_L24 at hf
    refine ex_pu (ls' := [vR 165, vR (E0 + 2 + 2 * t1), vI v2, vI v3]) (st' := [vI v2]) (dg dc189 14 rfl) rfl rfl ?_
    refine ex_if (t := 67) (dg dc189 15 rfl) rfl hf (fun _ hf => ?_) (fun _ hf => ?_)
    · exact k1 v2 M _ _ _ hf
    · refine ex_pu (ls' := [vR 165, vR (E0 + 2 + 2 * t1), vI v2, vI v3]) (st' := [vI v3]) (dg dc189 16 rfl) rfl rfl ?_
      refine ex_pu (ls' := [vR 165, vR (E0 + 2 + 2 * t1), vI v2, vI v3]) (st' := [vR (E0 + 2 + 2 * t1), vI v3]) (dg dc189 17 rfl) rfl rfl ?_
      refine ex_cI (vs := [vR (E0 + 2 + 2 * t1)]) (st' := [vI v3]) (F := (jdk_length t1 M)) (Or.inr (Or.inl ⟨rfl, (dg dc189 18 rfl)⟩)) rfl rfl (rkT ht1 rfl) rfl (fun _ r9 => jdk_length_ok (Z := Z) (d := e9) (by omega) ht1 r9) hf (fun z_6 M_5 he_4 hf => ?_)
      refine ex_icmp (t := 67) (dg dc189 19 rfl) rfl hf (fun _ hf => ?_) (fun _ hf => ?_)
      · exact k1 v2 M_5 _ _ _ hf
      · refine ex_pu (ls' := [vR 165, vR (E0 + 2 + 2 * t1), vI v2, vI v3]) (st' := [vR 165]) (dg dc189 20 rfl) rfl rfl ?_
        refine ex_getO (dg dc189 21 rfl) rfl (LOC.st (Nat.le_of_ble_eq_true rfl) rfl) rfl ?_
        show EX Z _ 189 _ [vR 165, vR (E0 + 2 + 2 * t1), vI v2, vI v3] [vR 170] _ _
        refine ex_pu (ls' := [vR 165, vR (E0 + 2 + 2 * t1), vI v2, vI v3]) (st' := [vR 165, vR 170]) (dg dc189 22 rfl) rfl rfl ?_
        refine ex_getI (dg dc189 23 rfl) rfl (LOC.st (Nat.le_of_ble_eq_true rfl) rfl) rfl ?_
        refine ex_pu (ls' := [vR 165, vR (E0 + 2 + 2 * t1), vI v2, vI v3]) (st' := [vI v3, vI (M_5 165 11), vR 170]) (dg dc189 24 rfl) rfl rfl ?_
        refine ex_pu (ls' := [vR 165, vR (E0 + 2 + 2 * t1), vI v2, vI v3]) (st' := [vI ((M_5 165 11) + v3), vR 170]) (dg dc189 25 rfl) rfl rfl ?_
        refine ex_bald (dg dc189 26 rfl) (LOC.st (Nat.le_of_ble_eq_true rfl) rfl) rfl hf (fun _ hf => ?_)
        refine ex_pu (ls' := [vR 165, vR (E0 + 2 + 2 * t1), vI v2, vI v3]) (st' := [vR (E0 + 2 + 2 * t1), vI (M_5 170 (((M_5 165 11) + v3)).toNat)]) (dg dc189 27 rfl) rfl rfl ?_
        refine ex_pu (ls' := [vR 165, vR (E0 + 2 + 2 * t1), vI v2, vI v3]) (st' := [vI v3, vR (E0 + 2 + 2 * t1), vI (M_5 170 (((M_5 165 11) + v3)).toNat)]) (dg dc189 28 rfl) rfl rfl ?_
        refine ex_cI (vs := [vR (E0 + 2 + 2 * t1), vI v3]) (st' := [vI (M_5 170 (((M_5 165 11) + v3)).toNat)]) (F := (jdk_charAt t1 v3 M_5)) (Or.inr (Or.inl ⟨rfl, (dg dc189 29 rfl)⟩)) rfl rfl (rkT ht1 rfl) rfl (fun _ r9 => jdk_charAt_ok (Z := Z) (d := e9) (by omega) ht1 r9) hf (fun z_9 M_8 he_7 hf => ?_)
        refine ex_icmp (t := 59) (dg dc189 30 rfl) rfl hf (fun _ hf => ?_) (fun _ hf => ?_)
        · refine ex_pu (ls' := [vR 165, vR (E0 + 2 + 2 * t1), vI v2, vI v3]) (st' := [vI 0]) (dg dc189 33 rfl) rfl rfl ?_
          refine ex_pu (ls' := [vR 165, vR (E0 + 2 + 2 * t1), vI 0, vI v3]) (st' := []) (dg dc189 34 rfl) rfl rfl ?_
          refine ex_pu (ls' := [vR 165, vR (E0 + 2 + 2 * t1), vI 0, vI (v3 + 1)]) (st' := []) (dg dc189 35 rfl) rfl rfl ?_
          refine ex_goto (t := 24) (dg dc189 36 rfl) rfl rfl ?_
          exact ih 0 (v3 + 1) M_8 hf
        · refine ex_pu (ls' := [vR 165, vR (E0 + 2 + 2 * t1), vI v2, vI v3]) (st' := [vI 1]) (dg dc189 31 rfl) rfl rfl ?_
          refine ex_goto (t := 60) (dg dc189 32 rfl) rfl rfl ?_
          refine ex_pu (ls' := [vR 165, vR (E0 + 2 + 2 * t1), vI 1, vI v3]) (st' := []) (dg dc189 34 rfl) rfl rfl ?_
          refine ex_pu (ls' := [vR 165, vR (E0 + 2 + 2 * t1), vI 1, vI (v3 + 1)]) (st' := []) (dg dc189 35 rfl) rfl rfl ?_
          refine ex_goto (t := 24) (dg dc189 36 rfl) rfl rfl ?_
          exact ih 1 (v3 + 1) M_8 hf
def mo_isWord_J21 (t1 : Nat)  (s0 : Int) (M : MM) : OR :=
  (mo_isWord_L24 t1 (fun v2_10 M_11 => (bif zo v2_10 then some (rI v2_10, M_11) else none)) FU s0 0 M)
set_option maxRecDepth 4000 in
theorem mo_isWord_J21_ok {Z : Nat × (Nat → Int)} {d : Nat} (hd : 4 ≤ d) {t1 : Nat} (ht1 : t1 < 79)  {res : AR × MM}  : ∀ (s0 : Int) (M : MM) (j2 j3 : AV), mo_isWord_J21 t1  s0 M = some res → EX Z d 189 21 [vR 165, vR (E0 + 2 + 2 * t1), j2, j3] [vI s0] M res := by
  obtain ⟨e9, rfl⟩ : ∃ e9, d = e9 + 1 := ⟨d - 1, by omega⟩
  intro s0 M j2 j3 hf
  unfold mo_isWord_J21 at hf
  refine ex_pu (ls' := [vR 165, vR (E0 + 2 + 2 * t1), vI s0, j3]) (st' := []) (dg dc189 11 rfl) rfl rfl ?_
  refine ex_pu (ls' := [vR 165, vR (E0 + 2 + 2 * t1), vI s0, j3]) (st' := [vI 0]) (dg dc189 12 rfl) rfl rfl ?_
  refine ex_pu (ls' := [vR 165, vR (E0 + 2 + 2 * t1), vI s0, vI 0]) (st' := []) (dg dc189 13 rfl) rfl rfl ?_
  refine mo_isWord_L24_ok hd ht1 ?_ FU s0 0 M hf
  · intro v2_10 M_11 j0_12 j1_13 j3_14 hf
    refine ex_pu (ls' := [j0_12, j1_13, vI v2_10, j3_14]) (st' := [vI v2_10]) (dg dc189 37 rfl) rfl rfl ?_
    exact ex_irb (dg dc189 38 rfl) rfl hf
def mo_isWord (t1 : Nat) (M : MM) : OR :=
  (bI (jdk_length t1 M) fun z_3 M_2 => (bif cmpB .ne ((M 165 9) - (M 165 11)) z_3 then (mo_isWord_J21 t1  0 M_2) else (mo_isWord_J21 t1  1 M_2)))
set_option maxRecDepth 4000 in
theorem mo_isWord_ok {Z : Nat × (Nat → Int)} {d : Nat} (hd : 4 ≤ d) {M : MM} {t1 : Nat} (ht1 : t1 < 79) {res : AR × MM} (hf : mo_isWord t1 M = some res) : EX Z d 189 0 (ent 189 [vR 165, vR (E0 + 2 + 2 * t1)]) [] M res := by
  obtain ⟨e9, rfl⟩ : ∃ e9, d = e9 + 1 := ⟨d - 1, by omega⟩
  unfold mo_isWord at hf
  show EX Z _ 189 0 [vR 165, vR (E0 + 2 + 2 * t1), vU, vU] [] M res
  refine ex_pu (ls' := [vR 165, vR (E0 + 2 + 2 * t1), vU, vU]) (st' := [vR 165]) (dg dc189 0 rfl) rfl rfl ?_
  refine ex_getI (dg dc189 1 rfl) rfl (LOC.st (Nat.le_of_ble_eq_true rfl) rfl) rfl ?_
  refine ex_pu (ls' := [vR 165, vR (E0 + 2 + 2 * t1), vU, vU]) (st' := [vR 165, vI (M 165 9)]) (dg dc189 2 rfl) rfl rfl ?_
  refine ex_getI (dg dc189 3 rfl) rfl (LOC.st (Nat.le_of_ble_eq_true rfl) rfl) rfl ?_
  refine ex_pu (ls' := [vR 165, vR (E0 + 2 + 2 * t1), vU, vU]) (st' := [vI ((M 165 9) - (M 165 11))]) (dg dc189 4 rfl) rfl rfl ?_
  refine ex_pu (ls' := [vR 165, vR (E0 + 2 + 2 * t1), vU, vU]) (st' := [vR (E0 + 2 + 2 * t1), vI ((M 165 9) - (M 165 11))]) (dg dc189 5 rfl) rfl rfl ?_
  refine ex_cI (vs := [vR (E0 + 2 + 2 * t1)]) (st' := [vI ((M 165 9) - (M 165 11))]) (F := (jdk_length t1 M)) (Or.inr (Or.inl ⟨rfl, (dg dc189 6 rfl)⟩)) rfl rfl (rkT ht1 rfl) rfl (fun _ r9 => jdk_length_ok (Z := Z) (d := e9) (by omega) ht1 r9) hf (fun z_3 M_2 he_1 hf => ?_)
  refine ex_icmp (t := 20) (dg dc189 7 rfl) rfl hf (fun _ hf => ?_) (fun _ hf => ?_)
  · refine ex_pu (ls' := [vR 165, vR (E0 + 2 + 2 * t1), vU, vU]) (st' := [vI 0]) (dg dc189 10 rfl) rfl rfl ?_
    exact mo_isWord_J21_ok hd ht1  0 M_2 _ _ hf
  · refine ex_pu (ls' := [vR 165, vR (E0 + 2 + 2 * t1), vU, vU]) (st' := [vI 1]) (dg dc189 8 rfl) rfl rfl ?_
    refine ex_goto (t := 21) (dg dc189 9 rfl) rfl rfl ?_
    exact mo_isWord_J21_ok hd ht1  1 M_2 _ _ hf
-- GlassHillModel.passes
def il190 : List (Nat × Instr × Nat) := [(0, .aload_n 0, 1), (1, .invokevirtual 121, 3), (4, .aload_n 0, 1), (5, .aload_n 1, 1), (6, .invokevirtual 124, 3), (9, .ifCond .eq 5, 3), (12, .iconst 1, 1), (13, .ireturn, 1), (14, .aload_n 0, 1), (15, .aload_n 0, 1), (16, .getfield 106, 3), (19, .putfield 96, 3), (22, .iconst 0, 1), (23, .ireturn, 1)]
theorem dc190 : dcs (mC 190) il190 := dc_of (by decide +kernel)
def mo_passes (t1 : Nat) (M : MM) : OR :=
  (bV (mo_letters  M) fun M_2 => (bI (mo_isWord t1 M_2) fun z_6 M_5 => (bif cmpB .eq z_6 0 then (sM (mU M_5 165 9 (M_5 165 11)) fun M_7 => some (rI 0, M_7)) else some (rI 1, M_5))))
set_option maxRecDepth 4000 in
theorem mo_passes_ok {Z : Nat × (Nat → Int)} {d : Nat} (hd : 5 ≤ d) {M : MM} {t1 : Nat} (ht1 : t1 < 79) {res : AR × MM} (hf : mo_passes t1 M = some res) : EX Z d 190 0 (ent 190 [vR 165, vR (E0 + 2 + 2 * t1)]) [] M res := by
  obtain ⟨e9, rfl⟩ : ∃ e9, d = e9 + 1 := ⟨d - 1, by omega⟩
  unfold mo_passes at hf
  show EX Z _ 190 0 [vR 165, vR (E0 + 2 + 2 * t1)] [] M res
  refine ex_pu (ls' := [vR 165, vR (E0 + 2 + 2 * t1)]) (st' := [vR 165]) (dg dc190 0 rfl) rfl rfl ?_
  refine ex_cV (vs := [vR 165]) (st' := []) (F := (mo_letters  M)) (Or.inr (Or.inl ⟨rfl, (dg dc190 1 rfl)⟩)) rfl rfl (rk1 (LOC.st (Nat.le_of_ble_eq_true rfl) rfl) rfl) rfl (fun _ r9 => mo_letters_ok (Z := Z) (d := e9) (by omega)  r9) hf (fun M_2 he_1 hf => ?_)
  refine ex_pu (ls' := [vR 165, vR (E0 + 2 + 2 * t1)]) (st' := [vR 165]) (dg dc190 2 rfl) rfl rfl ?_
  refine ex_pu (ls' := [vR 165, vR (E0 + 2 + 2 * t1)]) (st' := [vR (E0 + 2 + 2 * t1), vR 165]) (dg dc190 3 rfl) rfl rfl ?_
  refine ex_cI (vs := [vR 165, vR (E0 + 2 + 2 * t1)]) (st' := []) (F := (mo_isWord t1 M_2)) (Or.inr (Or.inl ⟨rfl, (dg dc190 4 rfl)⟩)) rfl rfl (rk1 (LOC.st (Nat.le_of_ble_eq_true rfl) rfl) rfl) rfl (fun _ r9 => mo_isWord_ok (Z := Z) (d := e9) (by omega) ht1  r9) hf (fun z_6 M_5 he_4 hf => ?_)
  refine ex_if (t := 14) (dg dc190 5 rfl) rfl hf (fun _ hf => ?_) (fun _ hf => ?_)
  · refine ex_pu (ls' := [vR 165, vR (E0 + 2 + 2 * t1)]) (st' := [vR 165]) (dg dc190 8 rfl) rfl rfl ?_
    refine ex_pu (ls' := [vR 165, vR (E0 + 2 + 2 * t1)]) (st' := [vR 165, vR 165]) (dg dc190 9 rfl) rfl rfl ?_
    refine ex_getI (dg dc190 10 rfl) rfl (LOC.st (Nat.le_of_ble_eq_true rfl) rfl) rfl ?_
    refine ex_putI (dg dc190 11 rfl) rfl (LOC.st (Nat.le_of_ble_eq_true rfl) rfl) rfl rfl rfl ?_
    refine ex_gen hf (fun M_7 hM_8 hf => ?_)
    refine ex_pu (ls' := [vR 165, vR (E0 + 2 + 2 * t1)]) (st' := [vI 0]) (dg dc190 12 rfl) rfl rfl ?_
    exact ex_ire (dg dc190 13 rfl) rfl hf
  · refine ex_pu (ls' := [vR 165, vR (E0 + 2 + 2 * t1)]) (st' := [vI 1]) (dg dc190 6 rfl) rfl rfl ?_
    exact ex_ire (dg dc190 7 rfl) rfl hf
-- GlassHillModel.isSign
def il191 : List (Nat × Instr × Nat) := [(0, .aload_n 0, 1), (1, .invokevirtual 109, 3), (4, .aload_n 0, 1), (5, .iload_n 1, 1), (6, .iload_n 1, 1), (7, .invokevirtual 102, 3), (10, .ifCond .ne 5, 3), (13, .iconst 0, 1), (14, .ireturn, 1), (15, .aload_n 0, 1), (16, .dup, 1), (17, .getfield 96, 3), (20, .iconst 1, 1), (21, .iadd, 1), (22, .putfield 96, 3), (25, .iconst 1, 1), (26, .ireturn, 1)]
theorem dc191 : dcs (mC 191) il191 := dc_of (by decide +kernel)
def mo_isSign (v1 : Int) (M : MM) : OR :=
  (bV (mo_blanks  M) fun M_2 => (bI (mo_isAt v1 v1 M_2) fun z_6 M_5 => (bif cmpB .ne z_6 0 then (sM (mU M_5 165 9 ((M_5 165 9) + 1)) fun M_7 => some (rI 1, M_7)) else some (rI 0, M_5))))
set_option maxRecDepth 4000 in
theorem mo_isSign_ok {Z : Nat × (Nat → Int)} {d : Nat} (hd : 2 ≤ d) {M : MM}  {v1 : Int} {res : AR × MM} (hf : mo_isSign v1 M = some res) : EX Z d 191 0 (ent 191 [vR 165, vI v1]) [] M res := by
  obtain ⟨e9, rfl⟩ : ∃ e9, d = e9 + 1 := ⟨d - 1, by omega⟩
  unfold mo_isSign at hf
  show EX Z _ 191 0 [vR 165, vI v1] [] M res
  refine ex_pu (ls' := [vR 165, vI v1]) (st' := [vR 165]) (dg dc191 0 rfl) rfl rfl ?_
  refine ex_cV (vs := [vR 165]) (st' := []) (F := (mo_blanks  M)) (Or.inr (Or.inl ⟨rfl, (dg dc191 1 rfl)⟩)) rfl rfl (rk1 (LOC.st (Nat.le_of_ble_eq_true rfl) rfl) rfl) rfl (fun _ r9 => mo_blanks_ok (Z := Z) (d := e9) (by omega)  r9) hf (fun M_2 he_1 hf => ?_)
  refine ex_pu (ls' := [vR 165, vI v1]) (st' := [vR 165]) (dg dc191 2 rfl) rfl rfl ?_
  refine ex_pu (ls' := [vR 165, vI v1]) (st' := [vI v1, vR 165]) (dg dc191 3 rfl) rfl rfl ?_
  refine ex_pu (ls' := [vR 165, vI v1]) (st' := [vI v1, vI v1, vR 165]) (dg dc191 4 rfl) rfl rfl ?_
  refine ex_cI (vs := [vR 165, vI v1, vI v1]) (st' := []) (F := (mo_isAt v1 v1 M_2)) (Or.inr (Or.inl ⟨rfl, (dg dc191 5 rfl)⟩)) rfl rfl (rk1 (LOC.st (Nat.le_of_ble_eq_true rfl) rfl) rfl) rfl (fun _ r9 => mo_isAt_ok (Z := Z) (d := e9) (by omega)  r9) hf (fun z_6 M_5 he_4 hf => ?_)
  refine ex_if (t := 15) (dg dc191 6 rfl) rfl hf (fun _ hf => ?_) (fun _ hf => ?_)
  · refine ex_pu (ls' := [vR 165, vI v1]) (st' := [vR 165]) (dg dc191 9 rfl) rfl rfl ?_
    refine ex_pu (ls' := [vR 165, vI v1]) (st' := [vR 165, vR 165]) (dg dc191 10 rfl) rfl rfl ?_
    refine ex_getI (dg dc191 11 rfl) rfl (LOC.st (Nat.le_of_ble_eq_true rfl) rfl) rfl ?_
    refine ex_pu (ls' := [vR 165, vI v1]) (st' := [vI 1, vI (M_5 165 9), vR 165]) (dg dc191 12 rfl) rfl rfl ?_
    refine ex_pu (ls' := [vR 165, vI v1]) (st' := [vI ((M_5 165 9) + 1), vR 165]) (dg dc191 13 rfl) rfl rfl ?_
    refine ex_putI (dg dc191 14 rfl) rfl (LOC.st (Nat.le_of_ble_eq_true rfl) rfl) rfl rfl rfl ?_
    refine ex_gen hf (fun M_7 hM_8 hf => ?_)
    refine ex_pu (ls' := [vR 165, vI v1]) (st' := [vI 1]) (dg dc191 15 rfl) rfl rfl ?_
    exact ex_ire (dg dc191 16 rfl) rfl hf
  · refine ex_pu (ls' := [vR 165, vI v1]) (st' := [vI 0]) (dg dc191 7 rfl) rfl rfl ?_
    exact ex_ire (dg dc191 8 rfl) rfl hf
-- GlassHillModel.number
def il192 : List (Nat × Instr × Nat) := [(0, .aload_n 0, 1), (1, .invokevirtual 109, 3), (4, .iconst 0, 1), (5, .istore_n 3, 1), (6, .aload_n 0, 1), (7, .bipush 48, 2), (9, .bipush 57, 2), (11, .invokevirtual 102, 3), (14, .ifCond .eq 51, 3), (17, .aload_n 0, 1), (18, .getfield 96, 3), (21, .aload_n 0, 1), (22, .getfield 106, 3), (25, .isub, 1), (26, .iconst 3, 1), (27, .if_icmp .ge 23, 3), (30, .bipush 10, 2), (32, .iload_n 3, 1), (33, .imul, 1), (34, .aload_n 0, 1), (35, .getfield 26, 3), (38, .aload_n 0, 1), (39, .getfield 96, 3), (42, .baload, 1), (43, .iadd, 1), (44, .bipush 48, 2), (46, .isub, 1), (47, .goto 4, 3), (50, .iload_n 3, 1), (51, .istore_n 3, 1), (52, .aload_n 0, 1), (53, .dup, 1), (54, .getfield 96, 3), (57, .iconst 1, 1), (58, .iadd, 1), (59, .putfield 96, 3), (62, .goto (-56), 3), (65, .aload_n 0, 1), (66, .getfield 96, 3), (69, .aload_n 0, 1), (70, .getfield 106, 3), (73, .if_icmp .eq 26, 3), (76, .aload_n 0, 1), (77, .getfield 96, 3), (80, .aload_n 0, 1), (81, .getfield 106, 3), (84, .isub, 1), (85, .iconst 3, 1), (86, .if_icmp .gt 13, 3), (89, .iload_n 3, 1), (90, .iload_n 1, 1), (91, .if_icmp .lt 8, 3), (94, .iload_n 3, 1), (95, .iload_n 2, 1), (96, .if_icmp .le 7, 3), (99, .iconst (-1), 1), (100, .goto 4, 3), (103, .iload_n 3, 1), (104, .ireturn, 1)]
theorem dc192 : dcs (mC 192) il192 := dc_of (by decide +kernel)
def mo_number_L6  (v1 v2 : Int) (K1 : Int → MM → OR) : Nat → Int → MM → OR
  | 0, _, _ => none
  | n + 1, v3, M => (bI (mo_isAt 48 57 M) fun z_6 M_5 => (bif cmpB .eq z_6 0 then (K1 v3 M_5) else (bif cmpB .ge ((M_5 165 9) - (M_5 165 11)) 3 then (sM (mU M_5 165 9 ((M_5 165 9) + 1)) fun M_7 => (mo_number_L6 v1 v2 K1 n v3 M_7)) else (bif inB (M_5 165 9) 400 then (sM (mU M_5 165 9 ((M_5 165 9) + 1)) fun M_9 => (mo_number_L6 v1 v2 K1 n (((10 * v3) + (M_5 170 ((M_5 165 9)).toNat)) - 48) M_9)) else none))))
set_option maxRecDepth 4000 in
theorem mo_number_L6_ok {Z : Nat × (Nat → Int)} {d : Nat} (hd : 2 ≤ d)  {v1 v2 : Int} {K1 : Int → MM → OR} {res : AR × MM} (k1 : ∀ (x3 : Int) (M : MM), K1 x3 M = some res → EX Z d 192 65 [vR 165, vI v1, vI v2, vI x3] [] M res) : ∀ (n : Nat) (v3 : Int) (M : MM), mo_number_L6 v1 v2 K1 n v3 M = some res → EX Z d 192 6 [vR 165, vI v1, vI v2, vI v3] [] M res := by
  obtain ⟨e9, rfl⟩ : ∃ e9, d = e9 + 1 := ⟨d - 1, by omega⟩
  intro n
  induction n with
  | zero =>
    intro v3 M hf
    unfold mo_number_L6 at hf
    cases hf
  | succ n ih =>
    intro v3 M hf
    unfold mo_number_L6 at hf
    refine ex_pu (ls' := [vR 165, vI v1, vI v2, vI v3]) (st' := [vR 165]) (dg dc192 4 rfl) rfl rfl ?_
    refine ex_pu (ls' := [vR 165, vI v1, vI v2, vI v3]) (st' := [vI 48, vR 165]) (dg dc192 5 rfl) rfl rfl ?_
    refine ex_pu (ls' := [vR 165, vI v1, vI v2, vI v3]) (st' := [vI 57, vI 48, vR 165]) (dg dc192 6 rfl) rfl rfl ?_
    refine ex_cI (vs := [vR 165, vI 48, vI 57]) (st' := []) (F := (mo_isAt 48 57 M)) (Or.inr (Or.inl ⟨rfl, (dg dc192 7 rfl)⟩)) rfl rfl (rk1 (LOC.st (Nat.le_of_ble_eq_true rfl) rfl) rfl) rfl (fun _ r9 => mo_isAt_ok (Z := Z) (d := e9) (by omega)  r9) hf (fun z_6 M_5 he_4 hf => ?_)
    refine ex_if (t := 65) (dg dc192 8 rfl) rfl hf (fun _ hf => ?_) (fun _ hf => ?_)
    · exact k1 v3 M_5 hf
    · refine ex_pu (ls' := [vR 165, vI v1, vI v2, vI v3]) (st' := [vR 165]) (dg dc192 9 rfl) rfl rfl ?_
      refine ex_getI (dg dc192 10 rfl) rfl (LOC.st (Nat.le_of_ble_eq_true rfl) rfl) rfl ?_
      refine ex_pu (ls' := [vR 165, vI v1, vI v2, vI v3]) (st' := [vR 165, vI (M_5 165 9)]) (dg dc192 11 rfl) rfl rfl ?_
      refine ex_getI (dg dc192 12 rfl) rfl (LOC.st (Nat.le_of_ble_eq_true rfl) rfl) rfl ?_
      refine ex_pu (ls' := [vR 165, vI v1, vI v2, vI v3]) (st' := [vI ((M_5 165 9) - (M_5 165 11))]) (dg dc192 13 rfl) rfl rfl ?_
      refine ex_pu (ls' := [vR 165, vI v1, vI v2, vI v3]) (st' := [vI 3, vI ((M_5 165 9) - (M_5 165 11))]) (dg dc192 14 rfl) rfl rfl ?_
      refine ex_icmp (t := 50) (dg dc192 15 rfl) rfl hf (fun _ hf => ?_) (fun _ hf => ?_)
      · refine ex_pu (ls' := [vR 165, vI v1, vI v2, vI v3]) (st' := [vI v3]) (dg dc192 28 rfl) rfl rfl ?_
        refine ex_pu (ls' := [vR 165, vI v1, vI v2, vI v3]) (st' := []) (dg dc192 29 rfl) rfl rfl ?_
        refine ex_pu (ls' := [vR 165, vI v1, vI v2, vI v3]) (st' := [vR 165]) (dg dc192 30 rfl) rfl rfl ?_
        refine ex_pu (ls' := [vR 165, vI v1, vI v2, vI v3]) (st' := [vR 165, vR 165]) (dg dc192 31 rfl) rfl rfl ?_
        refine ex_getI (dg dc192 32 rfl) rfl (LOC.st (Nat.le_of_ble_eq_true rfl) rfl) rfl ?_
        refine ex_pu (ls' := [vR 165, vI v1, vI v2, vI v3]) (st' := [vI 1, vI (M_5 165 9), vR 165]) (dg dc192 33 rfl) rfl rfl ?_
        refine ex_pu (ls' := [vR 165, vI v1, vI v2, vI v3]) (st' := [vI ((M_5 165 9) + 1), vR 165]) (dg dc192 34 rfl) rfl rfl ?_
        refine ex_putI (dg dc192 35 rfl) rfl (LOC.st (Nat.le_of_ble_eq_true rfl) rfl) rfl rfl rfl ?_
        refine ex_gen hf (fun M_7 hM_8 hf => ?_)
        refine ex_goto (t := 6) (dg dc192 36 rfl) rfl rfl ?_
        exact ih v3 M_7 hf
      · refine ex_pu (ls' := [vR 165, vI v1, vI v2, vI v3]) (st' := [vI 10]) (dg dc192 16 rfl) rfl rfl ?_
        refine ex_pu (ls' := [vR 165, vI v1, vI v2, vI v3]) (st' := [vI v3, vI 10]) (dg dc192 17 rfl) rfl rfl ?_
        refine ex_pu (ls' := [vR 165, vI v1, vI v2, vI v3]) (st' := [vI (10 * v3)]) (dg dc192 18 rfl) rfl rfl ?_
        refine ex_pu (ls' := [vR 165, vI v1, vI v2, vI v3]) (st' := [vR 165, vI (10 * v3)]) (dg dc192 19 rfl) rfl rfl ?_
        refine ex_getO (dg dc192 20 rfl) rfl (LOC.st (Nat.le_of_ble_eq_true rfl) rfl) rfl ?_
        show EX Z _ 192 _ [vR 165, vI v1, vI v2, vI v3] [vR 170, vI (10 * v3)] _ _
        refine ex_pu (ls' := [vR 165, vI v1, vI v2, vI v3]) (st' := [vR 165, vR 170, vI (10 * v3)]) (dg dc192 21 rfl) rfl rfl ?_
        refine ex_getI (dg dc192 22 rfl) rfl (LOC.st (Nat.le_of_ble_eq_true rfl) rfl) rfl ?_
        refine ex_bald (dg dc192 23 rfl) (LOC.st (Nat.le_of_ble_eq_true rfl) rfl) rfl hf (fun _ hf => ?_)
        refine ex_pu (ls' := [vR 165, vI v1, vI v2, vI v3]) (st' := [vI ((10 * v3) + (M_5 170 ((M_5 165 9)).toNat))]) (dg dc192 24 rfl) rfl rfl ?_
        refine ex_pu (ls' := [vR 165, vI v1, vI v2, vI v3]) (st' := [vI 48, vI ((10 * v3) + (M_5 170 ((M_5 165 9)).toNat))]) (dg dc192 25 rfl) rfl rfl ?_
        refine ex_pu (ls' := [vR 165, vI v1, vI v2, vI v3]) (st' := [vI (((10 * v3) + (M_5 170 ((M_5 165 9)).toNat)) - 48)]) (dg dc192 26 rfl) rfl rfl ?_
        refine ex_goto (t := 51) (dg dc192 27 rfl) rfl rfl ?_
        refine ex_pu (ls' := [vR 165, vI v1, vI v2, vI (((10 * v3) + (M_5 170 ((M_5 165 9)).toNat)) - 48)]) (st' := []) (dg dc192 29 rfl) rfl rfl ?_
        refine ex_pu (ls' := [vR 165, vI v1, vI v2, vI (((10 * v3) + (M_5 170 ((M_5 165 9)).toNat)) - 48)]) (st' := [vR 165]) (dg dc192 30 rfl) rfl rfl ?_
        refine ex_pu (ls' := [vR 165, vI v1, vI v2, vI (((10 * v3) + (M_5 170 ((M_5 165 9)).toNat)) - 48)]) (st' := [vR 165, vR 165]) (dg dc192 31 rfl) rfl rfl ?_
        refine ex_getI (dg dc192 32 rfl) rfl (LOC.st (Nat.le_of_ble_eq_true rfl) rfl) rfl ?_
        refine ex_pu (ls' := [vR 165, vI v1, vI v2, vI (((10 * v3) + (M_5 170 ((M_5 165 9)).toNat)) - 48)]) (st' := [vI 1, vI (M_5 165 9), vR 165]) (dg dc192 33 rfl) rfl rfl ?_
        refine ex_pu (ls' := [vR 165, vI v1, vI v2, vI (((10 * v3) + (M_5 170 ((M_5 165 9)).toNat)) - 48)]) (st' := [vI ((M_5 165 9) + 1), vR 165]) (dg dc192 34 rfl) rfl rfl ?_
        refine ex_putI (dg dc192 35 rfl) rfl (LOC.st (Nat.le_of_ble_eq_true rfl) rfl) rfl rfl rfl ?_
        refine ex_gen hf (fun M_9 hM_10 hf => ?_)
        refine ex_goto (t := 6) (dg dc192 36 rfl) rfl rfl ?_
        exact ih (((10 * v3) + (M_5 170 ((M_5 165 9)).toNat)) - 48) M_9 hf
def mo_number (v1 : Int) (v2 : Int) (M : MM) : OR :=
  (bV (mo_blanks  M) fun M_2 => (mo_number_L6 v1 v2 (fun v3_11 M_12 => (bif cmpB .eq (M_12 165 9) (M_12 165 11) then some (rI (-1), M_12) else (bif cmpB .gt ((M_12 165 9) - (M_12 165 11)) 3 then some (rI (-1), M_12) else (bif cmpB .lt v3_11 v1 then some (rI (-1), M_12) else (bif cmpB .le v3_11 v2 then some (rI v3_11, M_12) else some (rI (-1), M_12)))))) FU 0 M_2))
set_option maxRecDepth 4000 in
theorem mo_number_ok {Z : Nat × (Nat → Int)} {d : Nat} (hd : 2 ≤ d) {M : MM}  {v1 v2 : Int} {res : AR × MM} (hf : mo_number v1 v2 M = some res) : EX Z d 192 0 (ent 192 [vR 165, vI v1, vI v2]) [] M res := by
  obtain ⟨e9, rfl⟩ : ∃ e9, d = e9 + 1 := ⟨d - 1, by omega⟩
  unfold mo_number at hf
  show EX Z _ 192 0 [vR 165, vI v1, vI v2, vU] [] M res
  refine ex_pu (ls' := [vR 165, vI v1, vI v2, vU]) (st' := [vR 165]) (dg dc192 0 rfl) rfl rfl ?_
  refine ex_cV (vs := [vR 165]) (st' := []) (F := (mo_blanks  M)) (Or.inr (Or.inl ⟨rfl, (dg dc192 1 rfl)⟩)) rfl rfl (rk1 (LOC.st (Nat.le_of_ble_eq_true rfl) rfl) rfl) rfl (fun _ r9 => mo_blanks_ok (Z := Z) (d := e9) (by omega)  r9) hf (fun M_2 he_1 hf => ?_)
  refine ex_pu (ls' := [vR 165, vI v1, vI v2, vU]) (st' := [vI 0]) (dg dc192 2 rfl) rfl rfl ?_
  refine ex_pu (ls' := [vR 165, vI v1, vI v2, vI 0]) (st' := []) (dg dc192 3 rfl) rfl rfl ?_
  refine mo_number_L6_ok hd  ?_ FU 0 M_2 hf
  · intro v3_11 M_12 hf
    refine ex_pu (ls' := [vR 165, vI v1, vI v2, vI v3_11]) (st' := [vR 165]) (dg dc192 37 rfl) rfl rfl ?_
    refine ex_getI (dg dc192 38 rfl) rfl (LOC.st (Nat.le_of_ble_eq_true rfl) rfl) rfl ?_
    refine ex_pu (ls' := [vR 165, vI v1, vI v2, vI v3_11]) (st' := [vR 165, vI (M_12 165 9)]) (dg dc192 39 rfl) rfl rfl ?_
    refine ex_getI (dg dc192 40 rfl) rfl (LOC.st (Nat.le_of_ble_eq_true rfl) rfl) rfl ?_
    refine ex_icmp (t := 99) (dg dc192 41 rfl) rfl hf (fun _ hf => ?_) (fun _ hf => ?_)
    · refine ex_pu (ls' := [vR 165, vI v1, vI v2, vI v3_11]) (st' := [vI (-1)]) (dg dc192 55 rfl) rfl rfl ?_
      refine ex_goto (t := 104) (dg dc192 56 rfl) rfl rfl ?_
      exact ex_ire (dg dc192 58 rfl) rfl hf
    · refine ex_pu (ls' := [vR 165, vI v1, vI v2, vI v3_11]) (st' := [vR 165]) (dg dc192 42 rfl) rfl rfl ?_
      refine ex_getI (dg dc192 43 rfl) rfl (LOC.st (Nat.le_of_ble_eq_true rfl) rfl) rfl ?_
      refine ex_pu (ls' := [vR 165, vI v1, vI v2, vI v3_11]) (st' := [vR 165, vI (M_12 165 9)]) (dg dc192 44 rfl) rfl rfl ?_
      refine ex_getI (dg dc192 45 rfl) rfl (LOC.st (Nat.le_of_ble_eq_true rfl) rfl) rfl ?_
      refine ex_pu (ls' := [vR 165, vI v1, vI v2, vI v3_11]) (st' := [vI ((M_12 165 9) - (M_12 165 11))]) (dg dc192 46 rfl) rfl rfl ?_
      refine ex_pu (ls' := [vR 165, vI v1, vI v2, vI v3_11]) (st' := [vI 3, vI ((M_12 165 9) - (M_12 165 11))]) (dg dc192 47 rfl) rfl rfl ?_
      refine ex_icmp (t := 99) (dg dc192 48 rfl) rfl hf (fun _ hf => ?_) (fun _ hf => ?_)
      · refine ex_pu (ls' := [vR 165, vI v1, vI v2, vI v3_11]) (st' := [vI (-1)]) (dg dc192 55 rfl) rfl rfl ?_
        refine ex_goto (t := 104) (dg dc192 56 rfl) rfl rfl ?_
        exact ex_ire (dg dc192 58 rfl) rfl hf
      · refine ex_pu (ls' := [vR 165, vI v1, vI v2, vI v3_11]) (st' := [vI v3_11]) (dg dc192 49 rfl) rfl rfl ?_
        refine ex_pu (ls' := [vR 165, vI v1, vI v2, vI v3_11]) (st' := [vI v1, vI v3_11]) (dg dc192 50 rfl) rfl rfl ?_
        refine ex_icmp (t := 99) (dg dc192 51 rfl) rfl hf (fun _ hf => ?_) (fun _ hf => ?_)
        · refine ex_pu (ls' := [vR 165, vI v1, vI v2, vI v3_11]) (st' := [vI (-1)]) (dg dc192 55 rfl) rfl rfl ?_
          refine ex_goto (t := 104) (dg dc192 56 rfl) rfl rfl ?_
          exact ex_ire (dg dc192 58 rfl) rfl hf
        · refine ex_pu (ls' := [vR 165, vI v1, vI v2, vI v3_11]) (st' := [vI v3_11]) (dg dc192 52 rfl) rfl rfl ?_
          refine ex_pu (ls' := [vR 165, vI v1, vI v2, vI v3_11]) (st' := [vI v2, vI v3_11]) (dg dc192 53 rfl) rfl rfl ?_
          refine ex_icmp (t := 103) (dg dc192 54 rfl) rfl hf (fun _ hf => ?_) (fun _ hf => ?_)
          · refine ex_pu (ls' := [vR 165, vI v1, vI v2, vI v3_11]) (st' := [vI v3_11]) (dg dc192 57 rfl) rfl rfl ?_
            exact ex_ire (dg dc192 58 rfl) rfl hf
          · refine ex_pu (ls' := [vR 165, vI v1, vI v2, vI v3_11]) (st' := [vI (-1)]) (dg dc192 55 rfl) rfl rfl ?_
            refine ex_goto (t := 104) (dg dc192 56 rfl) rfl rfl ?_
            exact ex_ire (dg dc192 58 rfl) rfl hf
-- GlassHillModel.after
def il193 : List (Nat × Instr × Nat) := [(0, .aload_n 0, 1), (1, .invokevirtual 121, 3), (4, .aload_n 0, 1), (5, .aload_n 1, 1), (6, .invokevirtual 124, 3), (9, .ifCond .eq 12, 3), (12, .aload_n 0, 1), (13, .iload_n 2, 1), (14, .iload_n 3, 1), (15, .invokevirtual 128, 3), (18, .goto 4, 3), (21, .iconst (-1), 1), (22, .ireturn, 1)]
theorem dc193 : dcs (mC 193) il193 := dc_of (by decide +kernel)
def mo_after (t1 : Nat) (v2 : Int) (v3 : Int) (M : MM) : OR :=
  (bV (mo_letters  M) fun M_2 => (bI (mo_isWord t1 M_2) fun z_6 M_5 => (bif cmpB .eq z_6 0 then some (rI (-1), M_5) else (bI (mo_number v2 v3 M_5) fun z_9 M_8 => some (rI z_9, M_8)))))
set_option maxRecDepth 4000 in
theorem mo_after_ok {Z : Nat × (Nat → Int)} {d : Nat} (hd : 5 ≤ d) {M : MM} {t1 : Nat} (ht1 : t1 < 79) {v2 v3 : Int} {res : AR × MM} (hf : mo_after t1 v2 v3 M = some res) : EX Z d 193 0 (ent 193 [vR 165, vR (E0 + 2 + 2 * t1), vI v2, vI v3]) [] M res := by
  obtain ⟨e9, rfl⟩ : ∃ e9, d = e9 + 1 := ⟨d - 1, by omega⟩
  unfold mo_after at hf
  show EX Z _ 193 0 [vR 165, vR (E0 + 2 + 2 * t1), vI v2, vI v3] [] M res
  refine ex_pu (ls' := [vR 165, vR (E0 + 2 + 2 * t1), vI v2, vI v3]) (st' := [vR 165]) (dg dc193 0 rfl) rfl rfl ?_
  refine ex_cV (vs := [vR 165]) (st' := []) (F := (mo_letters  M)) (Or.inr (Or.inl ⟨rfl, (dg dc193 1 rfl)⟩)) rfl rfl (rk1 (LOC.st (Nat.le_of_ble_eq_true rfl) rfl) rfl) rfl (fun _ r9 => mo_letters_ok (Z := Z) (d := e9) (by omega)  r9) hf (fun M_2 he_1 hf => ?_)
  refine ex_pu (ls' := [vR 165, vR (E0 + 2 + 2 * t1), vI v2, vI v3]) (st' := [vR 165]) (dg dc193 2 rfl) rfl rfl ?_
  refine ex_pu (ls' := [vR 165, vR (E0 + 2 + 2 * t1), vI v2, vI v3]) (st' := [vR (E0 + 2 + 2 * t1), vR 165]) (dg dc193 3 rfl) rfl rfl ?_
  refine ex_cI (vs := [vR 165, vR (E0 + 2 + 2 * t1)]) (st' := []) (F := (mo_isWord t1 M_2)) (Or.inr (Or.inl ⟨rfl, (dg dc193 4 rfl)⟩)) rfl rfl (rk1 (LOC.st (Nat.le_of_ble_eq_true rfl) rfl) rfl) rfl (fun _ r9 => mo_isWord_ok (Z := Z) (d := e9) (by omega) ht1  r9) hf (fun z_6 M_5 he_4 hf => ?_)
  refine ex_if (t := 21) (dg dc193 5 rfl) rfl hf (fun _ hf => ?_) (fun _ hf => ?_)
  · refine ex_pu (ls' := [vR 165, vR (E0 + 2 + 2 * t1), vI v2, vI v3]) (st' := [vI (-1)]) (dg dc193 11 rfl) rfl rfl ?_
    exact ex_ire (dg dc193 12 rfl) rfl hf
  · refine ex_pu (ls' := [vR 165, vR (E0 + 2 + 2 * t1), vI v2, vI v3]) (st' := [vR 165]) (dg dc193 6 rfl) rfl rfl ?_
    refine ex_pu (ls' := [vR 165, vR (E0 + 2 + 2 * t1), vI v2, vI v3]) (st' := [vI v2, vR 165]) (dg dc193 7 rfl) rfl rfl ?_
    refine ex_pu (ls' := [vR 165, vR (E0 + 2 + 2 * t1), vI v2, vI v3]) (st' := [vI v3, vI v2, vR 165]) (dg dc193 8 rfl) rfl rfl ?_
    refine ex_cI (vs := [vR 165, vI v2, vI v3]) (st' := []) (F := (mo_number v2 v3 M_5)) (Or.inr (Or.inl ⟨rfl, (dg dc193 9 rfl)⟩)) rfl rfl (rk1 (LOC.st (Nat.le_of_ble_eq_true rfl) rfl) rfl) rfl (fun _ r9 => mo_number_ok (Z := Z) (d := e9) (by omega)  r9) hf (fun z_9 M_8 he_7 hf => ?_)
    refine ex_goto (t := 22) (dg dc193 10 rfl) rfl rfl ?_
    exact ex_ire (dg dc193 12 rfl) rfl hf
-- GlassHillModel.fault
def il194 : List (Nat × Instr × Nat) := [(0, .aload_n 0, 1), (1, .iconst 0, 1), (2, .putfield 3, 3), (5, .aload_n 0, 1), (6, .getfield 30, 3), (9, .ireturn, 1)]
theorem dc194 : dcs (mC 194) il194 := dc_of (by decide +kernel)
def mo_fault  (M : MM) : OR :=
  (sM (mU M 165 0 0) fun M_1 => some (rI (M_1 165 13), M_1))
set_option maxRecDepth 4000 in
theorem mo_fault_ok {Z : Nat × (Nat → Int)} {d : Nat} (hd : 0 ≤ d) {M : MM}  {res : AR × MM} (hf : mo_fault  M = some res) : EX Z d 194 0 (ent 194 [vR 165]) [] M res := by
  unfold mo_fault at hf
  show EX Z _ 194 0 [vR 165] [] M res
  refine ex_pu (ls' := [vR 165]) (st' := [vR 165]) (dg dc194 0 rfl) rfl rfl ?_
  refine ex_pu (ls' := [vR 165]) (st' := [vI 0, vR 165]) (dg dc194 1 rfl) rfl rfl ?_
  refine ex_putI (dg dc194 2 rfl) rfl (LOC.st (Nat.le_of_ble_eq_true rfl) rfl) rfl rfl rfl ?_
  refine ex_gen hf (fun M_1 hM_2 hf => ?_)
  refine ex_pu (ls' := [vR 165]) (st' := [vR 165]) (dg dc194 3 rfl) rfl rfl ?_
  refine ex_getI (dg dc194 4 rfl) rfl (LOC.st (Nat.le_of_ble_eq_true rfl) rfl) rfl ?_
  exact ex_ire (dg dc194 5 rfl) rfl hf
-- GlassHillModel.uses
def il195 : List (Nat × Instr × Nat) := [(0, .aload_n 0, 1), (1, .iconst 0, 1), (2, .putfield 3, 3), (5, .aload_n 0, 1), (6, .aload_n 0, 1), (7, .getfield 93, 3), (10, .putfield 99, 3), (13, .aload_n 0, 1), (14, .iconst 0, 1), (15, .putfield 93, 3), (18, .aload_n 0, 1), (19, .iconst 0, 1), (20, .putfield 96, 3), (23, .return_, 1)]
theorem dc195 : dcs (mC 195) il195 := dc_of (by decide +kernel)
def mo_uses  (M : MM) : OR :=
  (sM (mU M 165 0 0) fun M_1 => (sM (mU M_1 165 10 (M_1 165 8)) fun M_3 => (sM (mU M_3 165 8 0) fun M_5 => (sM (mU M_5 165 9 0) fun M_7 => some (rV, M_7)))))
set_option maxRecDepth 4000 in
theorem mo_uses_ok {Z : Nat × (Nat → Int)} {d : Nat} (hd : 0 ≤ d) {M : MM}  {res : AR × MM} (hf : mo_uses  M = some res) : EX Z d 195 0 (ent 195 [vR 165]) [] M res := by
  unfold mo_uses at hf
  show EX Z _ 195 0 [vR 165] [] M res
  refine ex_pu (ls' := [vR 165]) (st' := [vR 165]) (dg dc195 0 rfl) rfl rfl ?_
  refine ex_pu (ls' := [vR 165]) (st' := [vI 0, vR 165]) (dg dc195 1 rfl) rfl rfl ?_
  refine ex_putI (dg dc195 2 rfl) rfl (LOC.st (Nat.le_of_ble_eq_true rfl) rfl) rfl rfl rfl ?_
  refine ex_gen hf (fun M_1 hM_2 hf => ?_)
  refine ex_pu (ls' := [vR 165]) (st' := [vR 165]) (dg dc195 3 rfl) rfl rfl ?_
  refine ex_pu (ls' := [vR 165]) (st' := [vR 165, vR 165]) (dg dc195 4 rfl) rfl rfl ?_
  refine ex_getI (dg dc195 5 rfl) rfl (LOC.st (Nat.le_of_ble_eq_true rfl) rfl) rfl ?_
  refine ex_putI (dg dc195 6 rfl) rfl (LOC.st (Nat.le_of_ble_eq_true rfl) rfl) rfl rfl rfl ?_
  refine ex_gen hf (fun M_3 hM_4 hf => ?_)
  refine ex_pu (ls' := [vR 165]) (st' := [vR 165]) (dg dc195 7 rfl) rfl rfl ?_
  refine ex_pu (ls' := [vR 165]) (st' := [vI 0, vR 165]) (dg dc195 8 rfl) rfl rfl ?_
  refine ex_putI (dg dc195 9 rfl) rfl (LOC.st (Nat.le_of_ble_eq_true rfl) rfl) rfl rfl rfl ?_
  refine ex_gen hf (fun M_5 hM_6 hf => ?_)
  refine ex_pu (ls' := [vR 165]) (st' := [vR 165]) (dg dc195 10 rfl) rfl rfl ?_
  refine ex_pu (ls' := [vR 165]) (st' := [vI 0, vR 165]) (dg dc195 11 rfl) rfl rfl ?_
  refine ex_putI (dg dc195 12 rfl) rfl (LOC.st (Nat.le_of_ble_eq_true rfl) rfl) rfl rfl rfl ?_
  refine ex_gen hf (fun M_7 hM_8 hf => ?_)
  exact ex_vre (dg dc195 13 rfl) rfl hf
-- GlassHillModel.placeTold
def il196 : List (Nat × Instr × Nat) := [(0, .aload_n 0, 1), (1, .iconst 0, 1), (2, .aload_n 0, 1), (3, .invokevirtual 76, 3), (6, .iconst 1, 1), (7, .isub, 1), (8, .invokevirtual 128, 3), (11, .ireturn, 1)]
theorem dc196 : dcs (mC 196) il196 := dc_of (by decide +kernel)
def mo_placeTold  (M : MM) : OR :=
  (bI (mo_places  M) fun z_3 M_2 => (bI (mo_number 0 (z_3 - 1) M_2) fun z_6 M_5 => some (rI z_6, M_5)))
set_option maxRecDepth 4000 in
theorem mo_placeTold_ok {Z : Nat × (Nat → Int)} {d : Nat} (hd : 3 ≤ d) {M : MM}  {res : AR × MM} (hf : mo_placeTold  M = some res) : EX Z d 196 0 (ent 196 [vR 165]) [] M res := by
  obtain ⟨e9, rfl⟩ : ∃ e9, d = e9 + 1 := ⟨d - 1, by omega⟩
  unfold mo_placeTold at hf
  show EX Z _ 196 0 [vR 165] [] M res
  refine ex_pu (ls' := [vR 165]) (st' := [vR 165]) (dg dc196 0 rfl) rfl rfl ?_
  refine ex_pu (ls' := [vR 165]) (st' := [vI 0, vR 165]) (dg dc196 1 rfl) rfl rfl ?_
  refine ex_pu (ls' := [vR 165]) (st' := [vR 165, vI 0, vR 165]) (dg dc196 2 rfl) rfl rfl ?_
  refine ex_cI (vs := [vR 165]) (st' := [vI 0, vR 165]) (F := (mo_places  M)) (Or.inr (Or.inl ⟨rfl, (dg dc196 3 rfl)⟩)) rfl rfl (rk1 (LOC.st (Nat.le_of_ble_eq_true rfl) rfl) rfl) rfl (fun _ r9 => mo_places_ok (Z := Z) (d := e9) (by omega)  r9) hf (fun z_3 M_2 he_1 hf => ?_)
  refine ex_pu (ls' := [vR 165]) (st' := [vI 1, vI z_3, vI 0, vR 165]) (dg dc196 4 rfl) rfl rfl ?_
  refine ex_pu (ls' := [vR 165]) (st' := [vI (z_3 - 1), vI 0, vR 165]) (dg dc196 5 rfl) rfl rfl ?_
  refine ex_cI (vs := [vR 165, vI 0, vI (z_3 - 1)]) (st' := []) (F := (mo_number 0 (z_3 - 1) M_2)) (Or.inr (Or.inl ⟨rfl, (dg dc196 6 rfl)⟩)) rfl rfl (rk1 (LOC.st (Nat.le_of_ble_eq_true rfl) rfl) rfl) rfl (fun _ r9 => mo_number_ok (Z := Z) (d := e9) (by omega)  r9) hf (fun z_6 M_5 he_4 hf => ?_)
  exact ex_ire (dg dc196 7 rfl) rfl hf
-- GlassHillModel.readPlace
def il197 : List (Nat × Instr × Nat) := [(0, .aload_n 0, 1), (1, .invokevirtual 76, 3), (4, .istore_n 1, 1), (5, .iload_n 1, 1), (6, .bipush 10, 2), (8, .if_icmp .ne 5, 3), (11, .iconst 0, 1), (12, .ireturn, 1), (13, .iconst 0, 1), (14, .istore_n 2, 1), (15, .iload_n 2, 1), (16, .bipush 8, 2), (18, .if_icmp .ge 16, 3), (21, .aload_n 0, 1), (22, .iload_n 1, 1), (23, .iload_n 2, 1), (24, .iconst 0, 1), (25, .invokevirtual 131, 3), (28, .iinc 2 1, 3), (31, .goto (-16), 3), (34, .aload_n 0, 1), (35, .iload_n 1, 1), (36, .iconst 3, 1), (37, .iconst (-1), 1), (38, .invokevirtual 131, 3), (41, .aload_n 0, 1), (42, .iload_n 1, 1), (43, .iconst 4, 1), (44, .iconst (-1), 1), (45, .invokevirtual 131, 3), (48, .aload_n 0, 1), (49, .iload_n 1, 1), (50, .bipush 6, 2), (52, .iconst (-1), 1), (53, .invokevirtual 131, 3), (56, .aload_n 0, 1), (57, .getfield 13, 3), (60, .iconst 0, 1), (61, .dup2, 1), (62, .iaload, 1), (63, .iconst 1, 1), (64, .iadd, 1), (65, .iastore, 1), (66, .iconst 1, 1), (67, .ireturn, 1)]
theorem dc197 : dcs (mC 197) il197 := dc_of (by decide +kernel)
def mo_readPlace_L15  (v1 : Int) (K1 : MM → OR) : Nat → Int → MM → OR
  | 0, _, _ => none
  | n + 1, v2, M => (bif cmpB .ge v2 8 then (K1  M) else (bV (mo_sets v1 v2 0 M) fun M_5 => (mo_readPlace_L15 v1 K1 n (v2 + 1) M_5)))
set_option maxRecDepth 4000 in
theorem mo_readPlace_L15_ok {Z : Nat × (Nat → Int)} {d : Nat} (hd : 1 ≤ d)  {v1 : Int} {K1 : MM → OR} {res : AR × MM} (k1 : ∀ (M : MM) (j2 : AV), K1  M = some res → EX Z d 197 34 [vR 165, vI v1, j2] [] M res) : ∀ (n : Nat) (v2 : Int) (M : MM), mo_readPlace_L15 v1 K1 n v2 M = some res → EX Z d 197 15 [vR 165, vI v1, vI v2] [] M res := by
  obtain ⟨e9, rfl⟩ : ∃ e9, d = e9 + 1 := ⟨d - 1, by omega⟩
  intro n
  induction n with
  | zero =>
    intro v2 M hf
    unfold mo_readPlace_L15 at hf
    cases hf
  | succ n ih =>
    intro v2 M hf
    unfold mo_readPlace_L15 at hf
    refine ex_pu (ls' := [vR 165, vI v1, vI v2]) (st' := [vI v2]) (dg dc197 10 rfl) rfl rfl ?_
    refine ex_pu (ls' := [vR 165, vI v1, vI v2]) (st' := [vI 8, vI v2]) (dg dc197 11 rfl) rfl rfl ?_
    refine ex_icmp (t := 34) (dg dc197 12 rfl) rfl hf (fun _ hf => ?_) (fun _ hf => ?_)
    · exact k1  M _ hf
    · refine ex_pu (ls' := [vR 165, vI v1, vI v2]) (st' := [vR 165]) (dg dc197 13 rfl) rfl rfl ?_
      refine ex_pu (ls' := [vR 165, vI v1, vI v2]) (st' := [vI v1, vR 165]) (dg dc197 14 rfl) rfl rfl ?_
      refine ex_pu (ls' := [vR 165, vI v1, vI v2]) (st' := [vI v2, vI v1, vR 165]) (dg dc197 15 rfl) rfl rfl ?_
      refine ex_pu (ls' := [vR 165, vI v1, vI v2]) (st' := [vI 0, vI v2, vI v1, vR 165]) (dg dc197 16 rfl) rfl rfl ?_
      refine ex_cV (vs := [vR 165, vI v1, vI v2, vI 0]) (st' := []) (F := (mo_sets v1 v2 0 M)) (Or.inr (Or.inl ⟨rfl, (dg dc197 17 rfl)⟩)) rfl rfl (rk1 (LOC.st (Nat.le_of_ble_eq_true rfl) rfl) rfl) rfl (fun _ r9 => mo_sets_ok (Z := Z) (d := e9) (by omega)  r9) hf (fun M_5 he_4 hf => ?_)
      refine ex_pu (ls' := [vR 165, vI v1, vI (v2 + 1)]) (st' := []) (dg dc197 18 rfl) rfl rfl ?_
      refine ex_goto (t := 15) (dg dc197 19 rfl) rfl rfl ?_
      exact ih (v2 + 1) M_5 hf
def mo_readPlace  (M : MM) : OR :=
  (bI (mo_places  M) fun z_3 M_2 => (bif cmpB .ne z_3 10 then (mo_readPlace_L15 z_3 (fun M_7 => (bV (mo_sets z_3 3 (-1) M_7) fun M_10 => (bV (mo_sets z_3 4 (-1) M_10) fun M_13 => (bV (mo_sets z_3 6 (-1) M_13) fun M_16 => (bif inB 0 1964 then (bif inB 0 1964 then (sM (mU M_16 166 0 ((M_16 166 0) + 1)) fun M_18 => some (rI 1, M_18)) else none) else none))))) FU 0 M_2) else some (rI 0, M_2)))
set_option maxRecDepth 4000 in
theorem mo_readPlace_ok {Z : Nat × (Nat → Int)} {d : Nat} (hd : 1 ≤ d) {M : MM}  {res : AR × MM} (hf : mo_readPlace  M = some res) : EX Z d 197 0 (ent 197 [vR 165]) [] M res := by
  obtain ⟨e9, rfl⟩ : ∃ e9, d = e9 + 1 := ⟨d - 1, by omega⟩
  unfold mo_readPlace at hf
  show EX Z _ 197 0 [vR 165, vU, vU] [] M res
  refine ex_pu (ls' := [vR 165, vU, vU]) (st' := [vR 165]) (dg dc197 0 rfl) rfl rfl ?_
  refine ex_cI (vs := [vR 165]) (st' := []) (F := (mo_places  M)) (Or.inr (Or.inl ⟨rfl, (dg dc197 1 rfl)⟩)) rfl rfl (rk1 (LOC.st (Nat.le_of_ble_eq_true rfl) rfl) rfl) rfl (fun _ r9 => mo_places_ok (Z := Z) (d := e9) (by omega)  r9) hf (fun z_3 M_2 he_1 hf => ?_)
  refine ex_pu (ls' := [vR 165, vI z_3, vU]) (st' := []) (dg dc197 2 rfl) rfl rfl ?_
  refine ex_pu (ls' := [vR 165, vI z_3, vU]) (st' := [vI z_3]) (dg dc197 3 rfl) rfl rfl ?_
  refine ex_pu (ls' := [vR 165, vI z_3, vU]) (st' := [vI 10, vI z_3]) (dg dc197 4 rfl) rfl rfl ?_
  refine ex_icmp (t := 13) (dg dc197 5 rfl) rfl hf (fun _ hf => ?_) (fun _ hf => ?_)
  · refine ex_pu (ls' := [vR 165, vI z_3, vU]) (st' := [vI 0]) (dg dc197 8 rfl) rfl rfl ?_
    refine ex_pu (ls' := [vR 165, vI z_3, vI 0]) (st' := []) (dg dc197 9 rfl) rfl rfl ?_
    refine mo_readPlace_L15_ok hd  ?_ FU 0 M_2 hf
    · intro M_7 j2_8 hf
      refine ex_pu (ls' := [vR 165, vI z_3, j2_8]) (st' := [vR 165]) (dg dc197 20 rfl) rfl rfl ?_
      refine ex_pu (ls' := [vR 165, vI z_3, j2_8]) (st' := [vI z_3, vR 165]) (dg dc197 21 rfl) rfl rfl ?_
      refine ex_pu (ls' := [vR 165, vI z_3, j2_8]) (st' := [vI 3, vI z_3, vR 165]) (dg dc197 22 rfl) rfl rfl ?_
      refine ex_pu (ls' := [vR 165, vI z_3, j2_8]) (st' := [vI (-1), vI 3, vI z_3, vR 165]) (dg dc197 23 rfl) rfl rfl ?_
      refine ex_cV (vs := [vR 165, vI z_3, vI 3, vI (-1)]) (st' := []) (F := (mo_sets z_3 3 (-1) M_7)) (Or.inr (Or.inl ⟨rfl, (dg dc197 24 rfl)⟩)) rfl rfl (rk1 (LOC.st (Nat.le_of_ble_eq_true rfl) rfl) rfl) rfl (fun _ r9 => mo_sets_ok (Z := Z) (d := e9) (by omega)  r9) hf (fun M_10 he_9 hf => ?_)
      refine ex_pu (ls' := [vR 165, vI z_3, j2_8]) (st' := [vR 165]) (dg dc197 25 rfl) rfl rfl ?_
      refine ex_pu (ls' := [vR 165, vI z_3, j2_8]) (st' := [vI z_3, vR 165]) (dg dc197 26 rfl) rfl rfl ?_
      refine ex_pu (ls' := [vR 165, vI z_3, j2_8]) (st' := [vI 4, vI z_3, vR 165]) (dg dc197 27 rfl) rfl rfl ?_
      refine ex_pu (ls' := [vR 165, vI z_3, j2_8]) (st' := [vI (-1), vI 4, vI z_3, vR 165]) (dg dc197 28 rfl) rfl rfl ?_
      refine ex_cV (vs := [vR 165, vI z_3, vI 4, vI (-1)]) (st' := []) (F := (mo_sets z_3 4 (-1) M_10)) (Or.inr (Or.inl ⟨rfl, (dg dc197 29 rfl)⟩)) rfl rfl (rk1 (LOC.st (Nat.le_of_ble_eq_true rfl) rfl) rfl) rfl (fun _ r9 => mo_sets_ok (Z := Z) (d := e9) (by omega)  r9) hf (fun M_13 he_12 hf => ?_)
      refine ex_pu (ls' := [vR 165, vI z_3, j2_8]) (st' := [vR 165]) (dg dc197 30 rfl) rfl rfl ?_
      refine ex_pu (ls' := [vR 165, vI z_3, j2_8]) (st' := [vI z_3, vR 165]) (dg dc197 31 rfl) rfl rfl ?_
      refine ex_pu (ls' := [vR 165, vI z_3, j2_8]) (st' := [vI 6, vI z_3, vR 165]) (dg dc197 32 rfl) rfl rfl ?_
      refine ex_pu (ls' := [vR 165, vI z_3, j2_8]) (st' := [vI (-1), vI 6, vI z_3, vR 165]) (dg dc197 33 rfl) rfl rfl ?_
      refine ex_cV (vs := [vR 165, vI z_3, vI 6, vI (-1)]) (st' := []) (F := (mo_sets z_3 6 (-1) M_13)) (Or.inr (Or.inl ⟨rfl, (dg dc197 34 rfl)⟩)) rfl rfl (rk1 (LOC.st (Nat.le_of_ble_eq_true rfl) rfl) rfl) rfl (fun _ r9 => mo_sets_ok (Z := Z) (d := e9) (by omega)  r9) hf (fun M_16 he_15 hf => ?_)
      refine ex_pu (ls' := [vR 165, vI z_3, j2_8]) (st' := [vR 165]) (dg dc197 35 rfl) rfl rfl ?_
      refine ex_getO (dg dc197 36 rfl) rfl (LOC.st (Nat.le_of_ble_eq_true rfl) rfl) rfl ?_
      show EX Z _ 197 _ [vR 165, vI z_3, j2_8] [vR 166] _ _
      refine ex_pu (ls' := [vR 165, vI z_3, j2_8]) (st' := [vI 0, vR 166]) (dg dc197 37 rfl) rfl rfl ?_
      refine ex_pu (ls' := [vR 165, vI z_3, j2_8]) (st' := [vI 0, vR 166, vI 0, vR 166]) (dg dc197 38 rfl) rfl rfl ?_
      refine ex_iald (dg dc197 39 rfl) (LOC.st (Nat.le_of_ble_eq_true rfl) rfl) rfl hf (fun _ hf => ?_)
      refine ex_pu (ls' := [vR 165, vI z_3, j2_8]) (st' := [vI 1, vI (M_16 166 0), vI 0, vR 166]) (dg dc197 40 rfl) rfl rfl ?_
      refine ex_pu (ls' := [vR 165, vI z_3, j2_8]) (st' := [vI ((M_16 166 0) + 1), vI 0, vR 166]) (dg dc197 41 rfl) rfl rfl ?_
      refine ex_iast (dg dc197 42 rfl) (LOC.st (Nat.le_of_ble_eq_true rfl) rfl) rfl rfl hf (fun _ hf => ?_)
      refine ex_gen hf (fun M_18 hM_19 hf => ?_)
      refine ex_pu (ls' := [vR 165, vI z_3, j2_8]) (st' := [vI 1]) (dg dc197 43 rfl) rfl rfl ?_
      exact ex_ire (dg dc197 44 rfl) rfl hf
  · refine ex_pu (ls' := [vR 165, vI z_3, vU]) (st' := [vI 0]) (dg dc197 6 rfl) rfl rfl ?_
    exact ex_ire (dg dc197 7 rfl) rfl hf
-- GlassHillModel.appends
def il198 : List (Nat × Instr × Nat) := [(0, .bipush 90, 2), (2, .iconst 4, 1), (3, .aload_n 0, 1), (4, .invokevirtual 84, 3), (7, .imul, 1), (8, .iadd, 1), (9, .istore 5, 2), (11, .aload_n 0, 1), (12, .getfield 13, 3), (15, .iload 5, 2), (17, .iconst 0, 1), (18, .iadd, 1), (19, .iload_n 1, 1), (20, .iastore, 1), (21, .aload_n 0, 1), (22, .getfield 13, 3), (25, .iload 5, 2), (27, .iconst 1, 1), (28, .iadd, 1), (29, .iload_n 2, 1), (30, .iastore, 1), (31, .aload_n 0, 1), (32, .getfield 13, 3), (35, .iload 5, 2), (37, .iconst 2, 1), (38, .iadd, 1), (39, .iload_n 3, 1), (40, .iastore, 1), (41, .aload_n 0, 1), (42, .getfield 13, 3), (45, .iload 5, 2), (47, .iconst 3, 1), (48, .iadd, 1), (49, .iload 4, 2), (51, .iastore, 1), (52, .aload_n 0, 1), (53, .getfield 13, 3), (56, .iconst 1, 1), (57, .dup2, 1), (58, .iaload, 1), (59, .iconst 1, 1), (60, .iadd, 1), (61, .iastore, 1), (62, .return_, 1)]
theorem dc198 : dcs (mC 198) il198 := dc_of (by decide +kernel)
def mo_appends (v1 : Int) (v2 : Int) (v3 : Int) (v4 : Int) (M : MM) : OR :=
  (bI (mo_things  M) fun z_3 M_2 => (bif inB ((90 + (4 * z_3)) + 0) 1964 then (sM (mU M_2 166 (((90 + (4 * z_3)) + 0)).toNat v1) fun M_4 => (bif inB ((90 + (4 * z_3)) + 1) 1964 then (sM (mU M_4 166 (((90 + (4 * z_3)) + 1)).toNat v2) fun M_6 => (bif inB ((90 + (4 * z_3)) + 2) 1964 then (sM (mU M_6 166 (((90 + (4 * z_3)) + 2)).toNat v3) fun M_8 => (bif inB ((90 + (4 * z_3)) + 3) 1964 then (sM (mU M_8 166 (((90 + (4 * z_3)) + 3)).toNat v4) fun M_10 => (bif inB 1 1964 then (bif inB 1 1964 then (sM (mU M_10 166 1 ((M_10 166 1) + 1)) fun M_12 => some (rV, M_12)) else none) else none)) else none)) else none)) else none)) else none))
set_option maxRecDepth 4000 in
theorem mo_appends_ok {Z : Nat × (Nat → Int)} {d : Nat} (hd : 1 ≤ d) {M : MM}  {v1 v2 v3 v4 : Int} {res : AR × MM} (hf : mo_appends v1 v2 v3 v4 M = some res) : EX Z d 198 0 (ent 198 [vR 165, vI v1, vI v2, vI v3, vI v4]) [] M res := by
  obtain ⟨e9, rfl⟩ : ∃ e9, d = e9 + 1 := ⟨d - 1, by omega⟩
  unfold mo_appends at hf
  show EX Z _ 198 0 [vR 165, vI v1, vI v2, vI v3, vI v4, vU] [] M res
  refine ex_pu (ls' := [vR 165, vI v1, vI v2, vI v3, vI v4, vU]) (st' := [vI 90]) (dg dc198 0 rfl) rfl rfl ?_
  refine ex_pu (ls' := [vR 165, vI v1, vI v2, vI v3, vI v4, vU]) (st' := [vI 4, vI 90]) (dg dc198 1 rfl) rfl rfl ?_
  refine ex_pu (ls' := [vR 165, vI v1, vI v2, vI v3, vI v4, vU]) (st' := [vR 165, vI 4, vI 90]) (dg dc198 2 rfl) rfl rfl ?_
  refine ex_cI (vs := [vR 165]) (st' := [vI 4, vI 90]) (F := (mo_things  M)) (Or.inr (Or.inl ⟨rfl, (dg dc198 3 rfl)⟩)) rfl rfl (rk1 (LOC.st (Nat.le_of_ble_eq_true rfl) rfl) rfl) rfl (fun _ r9 => mo_things_ok (Z := Z) (d := e9) (by omega)  r9) hf (fun z_3 M_2 he_1 hf => ?_)
  refine ex_pu (ls' := [vR 165, vI v1, vI v2, vI v3, vI v4, vU]) (st' := [vI (4 * z_3), vI 90]) (dg dc198 4 rfl) rfl rfl ?_
  refine ex_pu (ls' := [vR 165, vI v1, vI v2, vI v3, vI v4, vU]) (st' := [vI (90 + (4 * z_3))]) (dg dc198 5 rfl) rfl rfl ?_
  refine ex_pu (ls' := [vR 165, vI v1, vI v2, vI v3, vI v4, vI (90 + (4 * z_3))]) (st' := []) (dg dc198 6 rfl) rfl rfl ?_
  refine ex_pu (ls' := [vR 165, vI v1, vI v2, vI v3, vI v4, vI (90 + (4 * z_3))]) (st' := [vR 165]) (dg dc198 7 rfl) rfl rfl ?_
  refine ex_getO (dg dc198 8 rfl) rfl (LOC.st (Nat.le_of_ble_eq_true rfl) rfl) rfl ?_
  show EX Z _ 198 _ [vR 165, vI v1, vI v2, vI v3, vI v4, vI (90 + (4 * z_3))] [vR 166] _ _
  refine ex_pu (ls' := [vR 165, vI v1, vI v2, vI v3, vI v4, vI (90 + (4 * z_3))]) (st' := [vI (90 + (4 * z_3)), vR 166]) (dg dc198 9 rfl) rfl rfl ?_
  refine ex_pu (ls' := [vR 165, vI v1, vI v2, vI v3, vI v4, vI (90 + (4 * z_3))]) (st' := [vI 0, vI (90 + (4 * z_3)), vR 166]) (dg dc198 10 rfl) rfl rfl ?_
  refine ex_pu (ls' := [vR 165, vI v1, vI v2, vI v3, vI v4, vI (90 + (4 * z_3))]) (st' := [vI ((90 + (4 * z_3)) + 0), vR 166]) (dg dc198 11 rfl) rfl rfl ?_
  refine ex_pu (ls' := [vR 165, vI v1, vI v2, vI v3, vI v4, vI (90 + (4 * z_3))]) (st' := [vI v1, vI ((90 + (4 * z_3)) + 0), vR 166]) (dg dc198 12 rfl) rfl rfl ?_
  refine ex_iast (dg dc198 13 rfl) (LOC.st (Nat.le_of_ble_eq_true rfl) rfl) rfl rfl hf (fun _ hf => ?_)
  refine ex_gen hf (fun M_4 hM_5 hf => ?_)
  refine ex_pu (ls' := [vR 165, vI v1, vI v2, vI v3, vI v4, vI (90 + (4 * z_3))]) (st' := [vR 165]) (dg dc198 14 rfl) rfl rfl ?_
  refine ex_getO (dg dc198 15 rfl) rfl (LOC.st (Nat.le_of_ble_eq_true rfl) rfl) rfl ?_
  show EX Z _ 198 _ [vR 165, vI v1, vI v2, vI v3, vI v4, vI (90 + (4 * z_3))] [vR 166] _ _
  refine ex_pu (ls' := [vR 165, vI v1, vI v2, vI v3, vI v4, vI (90 + (4 * z_3))]) (st' := [vI (90 + (4 * z_3)), vR 166]) (dg dc198 16 rfl) rfl rfl ?_
  refine ex_pu (ls' := [vR 165, vI v1, vI v2, vI v3, vI v4, vI (90 + (4 * z_3))]) (st' := [vI 1, vI (90 + (4 * z_3)), vR 166]) (dg dc198 17 rfl) rfl rfl ?_
  refine ex_pu (ls' := [vR 165, vI v1, vI v2, vI v3, vI v4, vI (90 + (4 * z_3))]) (st' := [vI ((90 + (4 * z_3)) + 1), vR 166]) (dg dc198 18 rfl) rfl rfl ?_
  refine ex_pu (ls' := [vR 165, vI v1, vI v2, vI v3, vI v4, vI (90 + (4 * z_3))]) (st' := [vI v2, vI ((90 + (4 * z_3)) + 1), vR 166]) (dg dc198 19 rfl) rfl rfl ?_
  refine ex_iast (dg dc198 20 rfl) (LOC.st (Nat.le_of_ble_eq_true rfl) rfl) rfl rfl hf (fun _ hf => ?_)
  refine ex_gen hf (fun M_6 hM_7 hf => ?_)
  refine ex_pu (ls' := [vR 165, vI v1, vI v2, vI v3, vI v4, vI (90 + (4 * z_3))]) (st' := [vR 165]) (dg dc198 21 rfl) rfl rfl ?_
  refine ex_getO (dg dc198 22 rfl) rfl (LOC.st (Nat.le_of_ble_eq_true rfl) rfl) rfl ?_
  show EX Z _ 198 _ [vR 165, vI v1, vI v2, vI v3, vI v4, vI (90 + (4 * z_3))] [vR 166] _ _
  refine ex_pu (ls' := [vR 165, vI v1, vI v2, vI v3, vI v4, vI (90 + (4 * z_3))]) (st' := [vI (90 + (4 * z_3)), vR 166]) (dg dc198 23 rfl) rfl rfl ?_
  refine ex_pu (ls' := [vR 165, vI v1, vI v2, vI v3, vI v4, vI (90 + (4 * z_3))]) (st' := [vI 2, vI (90 + (4 * z_3)), vR 166]) (dg dc198 24 rfl) rfl rfl ?_
  refine ex_pu (ls' := [vR 165, vI v1, vI v2, vI v3, vI v4, vI (90 + (4 * z_3))]) (st' := [vI ((90 + (4 * z_3)) + 2), vR 166]) (dg dc198 25 rfl) rfl rfl ?_
  refine ex_pu (ls' := [vR 165, vI v1, vI v2, vI v3, vI v4, vI (90 + (4 * z_3))]) (st' := [vI v3, vI ((90 + (4 * z_3)) + 2), vR 166]) (dg dc198 26 rfl) rfl rfl ?_
  refine ex_iast (dg dc198 27 rfl) (LOC.st (Nat.le_of_ble_eq_true rfl) rfl) rfl rfl hf (fun _ hf => ?_)
  refine ex_gen hf (fun M_8 hM_9 hf => ?_)
  refine ex_pu (ls' := [vR 165, vI v1, vI v2, vI v3, vI v4, vI (90 + (4 * z_3))]) (st' := [vR 165]) (dg dc198 28 rfl) rfl rfl ?_
  refine ex_getO (dg dc198 29 rfl) rfl (LOC.st (Nat.le_of_ble_eq_true rfl) rfl) rfl ?_
  show EX Z _ 198 _ [vR 165, vI v1, vI v2, vI v3, vI v4, vI (90 + (4 * z_3))] [vR 166] _ _
  refine ex_pu (ls' := [vR 165, vI v1, vI v2, vI v3, vI v4, vI (90 + (4 * z_3))]) (st' := [vI (90 + (4 * z_3)), vR 166]) (dg dc198 30 rfl) rfl rfl ?_
  refine ex_pu (ls' := [vR 165, vI v1, vI v2, vI v3, vI v4, vI (90 + (4 * z_3))]) (st' := [vI 3, vI (90 + (4 * z_3)), vR 166]) (dg dc198 31 rfl) rfl rfl ?_
  refine ex_pu (ls' := [vR 165, vI v1, vI v2, vI v3, vI v4, vI (90 + (4 * z_3))]) (st' := [vI ((90 + (4 * z_3)) + 3), vR 166]) (dg dc198 32 rfl) rfl rfl ?_
  refine ex_pu (ls' := [vR 165, vI v1, vI v2, vI v3, vI v4, vI (90 + (4 * z_3))]) (st' := [vI v4, vI ((90 + (4 * z_3)) + 3), vR 166]) (dg dc198 33 rfl) rfl rfl ?_
  refine ex_iast (dg dc198 34 rfl) (LOC.st (Nat.le_of_ble_eq_true rfl) rfl) rfl rfl hf (fun _ hf => ?_)
  refine ex_gen hf (fun M_10 hM_11 hf => ?_)
  refine ex_pu (ls' := [vR 165, vI v1, vI v2, vI v3, vI v4, vI (90 + (4 * z_3))]) (st' := [vR 165]) (dg dc198 35 rfl) rfl rfl ?_
  refine ex_getO (dg dc198 36 rfl) rfl (LOC.st (Nat.le_of_ble_eq_true rfl) rfl) rfl ?_
  show EX Z _ 198 _ [vR 165, vI v1, vI v2, vI v3, vI v4, vI (90 + (4 * z_3))] [vR 166] _ _
  refine ex_pu (ls' := [vR 165, vI v1, vI v2, vI v3, vI v4, vI (90 + (4 * z_3))]) (st' := [vI 1, vR 166]) (dg dc198 37 rfl) rfl rfl ?_
  refine ex_pu (ls' := [vR 165, vI v1, vI v2, vI v3, vI v4, vI (90 + (4 * z_3))]) (st' := [vI 1, vR 166, vI 1, vR 166]) (dg dc198 38 rfl) rfl rfl ?_
  refine ex_iald (dg dc198 39 rfl) (LOC.st (Nat.le_of_ble_eq_true rfl) rfl) rfl hf (fun _ hf => ?_)
  refine ex_pu (ls' := [vR 165, vI v1, vI v2, vI v3, vI v4, vI (90 + (4 * z_3))]) (st' := [vI 1, vI (M_10 166 1), vI 1, vR 166]) (dg dc198 40 rfl) rfl rfl ?_
  refine ex_pu (ls' := [vR 165, vI v1, vI v2, vI v3, vI v4, vI (90 + (4 * z_3))]) (st' := [vI ((M_10 166 1) + 1), vI 1, vR 166]) (dg dc198 41 rfl) rfl rfl ?_
  refine ex_iast (dg dc198 42 rfl) (LOC.st (Nat.le_of_ble_eq_true rfl) rfl) rfl rfl hf (fun _ hf => ?_)
  refine ex_gen hf (fun M_12 hM_13 hf => ?_)
  exact ex_vre (dg dc198 43 rfl) rfl hf
-- GlassHillModel.readThing
def il199 : List (Nat × Instr × Nat) := [(0, .aload_n 0, 1), (1, .invokevirtual 84, 3), (4, .bipush 10, 2), (6, .if_icmp .ne 5, 3), (9, .iconst 0, 1), (10, .ireturn, 1), (11, .aload_n 0, 1), (12, .iconst 0, 1), (13, .bipush 15, 2), (15, .invokevirtual 128, 3), (18, .istore_n 1, 1), (19, .iload_n 1, 1), (20, .ifCond .ge 7, 3), (23, .iconst (-1), 1), (24, .goto 12, 3), (27, .aload_n 0, 1), (28, .ldc 135, 2), (30, .iconst 1, 1), (31, .bipush 99, 2), (33, .invokevirtual 137, 3), (36, .istore_n 2, 1), (37, .iload_n 2, 1), (38, .ifCond .ge 7, 3), (41, .iconst (-1), 1), (42, .goto 16, 3), (45, .aload_n 0, 1), (46, .ldc 141, 2), (48, .iconst 0, 1), (49, .aload_n 0, 1), (50, .invokevirtual 76, 3), (53, .iconst 1, 1), (54, .isub, 1), (55, .invokevirtual 137, 3), (58, .istore_n 3, 1), (59, .iload_n 3, 1), (60, .ifCond .lt 11, 3), (63, .aload_n 0, 1), (64, .iload_n 1, 1), (65, .iload_n 2, 1), (66, .iconst 0, 1), (67, .iload_n 3, 1), (68, .invokevirtual 143, 3), (71, .iload_n 3, 1), (72, .ifCond .lt 7, 3), (75, .iconst 1, 1), (76, .goto 4, 3), (79, .iconst 0, 1), (80, .ireturn, 1)]
theorem dc199 : dcs (mC 199) il199 := dc_of (by decide +kernel)
def mo_readThing_J36   (v1 s0 : Int) (M : MM) : OR :=
  (bif cmpB .ge s0 0 then (bI (mo_places  M) fun z_12 M_11 => (bI (mo_after 55 0 (z_12 - 1) M_11) fun z_15 M_14 => (bif cmpB .lt z_15 0 then (bif cmpB .lt z_15 0 then some (rI 0, M_14) else some (rI 1, M_14)) else (bV (mo_appends v1 s0 0 z_15 M_14) fun M_17 => (bif cmpB .lt z_15 0 then some (rI 0, M_17) else some (rI 1, M_17)))))) else some (rI 0, M))
set_option maxRecDepth 4000 in
theorem mo_readThing_J36_ok {Z : Nat × (Nat → Int)} {d : Nat} (hd : 6 ≤ d)   {res : AR × MM}  : ∀ (v1 s0 : Int) (M : MM) (j2 j3 : AV), mo_readThing_J36   v1 s0 M = some res → EX Z d 199 36 [vR 165, vI v1, j2, j3] [vI s0] M res := by
  obtain ⟨e9, rfl⟩ : ∃ e9, d = e9 + 1 := ⟨d - 1, by omega⟩
  intro v1 s0 M j2 j3 hf
  unfold mo_readThing_J36 at hf
  refine ex_pu (ls' := [vR 165, vI v1, vI s0, j3]) (st' := []) (dg dc199 20 rfl) rfl rfl ?_
  refine ex_pu (ls' := [vR 165, vI v1, vI s0, j3]) (st' := [vI s0]) (dg dc199 21 rfl) rfl rfl ?_
  refine ex_if (t := 45) (dg dc199 22 rfl) rfl hf (fun _ hf => ?_) (fun _ hf => ?_)
  · refine ex_pu (ls' := [vR 165, vI v1, vI s0, j3]) (st' := [vR 165]) (dg dc199 25 rfl) rfl rfl ?_
    refine ex_ldcT (dg dc199 26 rfl) rfl ?_
    refine ex_pu (ls' := [vR 165, vI v1, vI s0, j3]) (st' := [vI 0, vR (E0 + 2 + 2 * 55), vR 165]) (dg dc199 27 rfl) rfl rfl ?_
    refine ex_pu (ls' := [vR 165, vI v1, vI s0, j3]) (st' := [vR 165, vI 0, vR (E0 + 2 + 2 * 55), vR 165]) (dg dc199 28 rfl) rfl rfl ?_
    refine ex_cI (vs := [vR 165]) (st' := [vI 0, vR (E0 + 2 + 2 * 55), vR 165]) (F := (mo_places  M)) (Or.inr (Or.inl ⟨rfl, (dg dc199 29 rfl)⟩)) rfl rfl (rk1 (LOC.st (Nat.le_of_ble_eq_true rfl) rfl) rfl) rfl (fun _ r9 => mo_places_ok (Z := Z) (d := e9) (by omega)  r9) hf (fun z_12 M_11 he_10 hf => ?_)
    refine ex_pu (ls' := [vR 165, vI v1, vI s0, j3]) (st' := [vI 1, vI z_12, vI 0, vR (E0 + 2 + 2 * 55), vR 165]) (dg dc199 30 rfl) rfl rfl ?_
    refine ex_pu (ls' := [vR 165, vI v1, vI s0, j3]) (st' := [vI (z_12 - 1), vI 0, vR (E0 + 2 + 2 * 55), vR 165]) (dg dc199 31 rfl) rfl rfl ?_
    refine ex_cI (vs := [vR 165, vR (E0 + 2 + 2 * 55), vI 0, vI (z_12 - 1)]) (st' := []) (F := (mo_after 55 0 (z_12 - 1) M_11)) (Or.inr (Or.inl ⟨rfl, (dg dc199 32 rfl)⟩)) rfl rfl (rk1 (LOC.st (Nat.le_of_ble_eq_true rfl) rfl) rfl) rfl (fun _ r9 => mo_after_ok (Z := Z) (d := e9) (by omega) (by decide)  r9) hf (fun z_15 M_14 he_13 hf => ?_)
    refine ex_pu (ls' := [vR 165, vI v1, vI s0, vI z_15]) (st' := []) (dg dc199 33 rfl) rfl rfl ?_
    refine ex_pu (ls' := [vR 165, vI v1, vI s0, vI z_15]) (st' := [vI z_15]) (dg dc199 34 rfl) rfl rfl ?_
    refine ex_if (t := 71) (dg dc199 35 rfl) rfl hf (fun _ hf => ?_) (fun _ hf => ?_)
    · refine ex_pu (ls' := [vR 165, vI v1, vI s0, vI z_15]) (st' := [vI z_15]) (dg dc199 42 rfl) rfl rfl ?_
      refine ex_if (t := 79) (dg dc199 43 rfl) rfl hf (fun _ hf => ?_) (fun _ hf => ?_)
      · refine ex_pu (ls' := [vR 165, vI v1, vI s0, vI z_15]) (st' := [vI 0]) (dg dc199 46 rfl) rfl rfl ?_
        exact ex_ire (dg dc199 47 rfl) rfl hf
      · refine ex_pu (ls' := [vR 165, vI v1, vI s0, vI z_15]) (st' := [vI 1]) (dg dc199 44 rfl) rfl rfl ?_
        refine ex_goto (t := 80) (dg dc199 45 rfl) rfl rfl ?_
        exact ex_ire (dg dc199 47 rfl) rfl hf
    · refine ex_pu (ls' := [vR 165, vI v1, vI s0, vI z_15]) (st' := [vR 165]) (dg dc199 36 rfl) rfl rfl ?_
      refine ex_pu (ls' := [vR 165, vI v1, vI s0, vI z_15]) (st' := [vI v1, vR 165]) (dg dc199 37 rfl) rfl rfl ?_
      refine ex_pu (ls' := [vR 165, vI v1, vI s0, vI z_15]) (st' := [vI s0, vI v1, vR 165]) (dg dc199 38 rfl) rfl rfl ?_
      refine ex_pu (ls' := [vR 165, vI v1, vI s0, vI z_15]) (st' := [vI 0, vI s0, vI v1, vR 165]) (dg dc199 39 rfl) rfl rfl ?_
      refine ex_pu (ls' := [vR 165, vI v1, vI s0, vI z_15]) (st' := [vI z_15, vI 0, vI s0, vI v1, vR 165]) (dg dc199 40 rfl) rfl rfl ?_
      refine ex_cV (vs := [vR 165, vI v1, vI s0, vI 0, vI z_15]) (st' := []) (F := (mo_appends v1 s0 0 z_15 M_14)) (Or.inr (Or.inl ⟨rfl, (dg dc199 41 rfl)⟩)) rfl rfl (rk1 (LOC.st (Nat.le_of_ble_eq_true rfl) rfl) rfl) rfl (fun _ r9 => mo_appends_ok (Z := Z) (d := e9) (by omega)  r9) hf (fun M_17 he_16 hf => ?_)
      refine ex_pu (ls' := [vR 165, vI v1, vI s0, vI z_15]) (st' := [vI z_15]) (dg dc199 42 rfl) rfl rfl ?_
      refine ex_if (t := 79) (dg dc199 43 rfl) rfl hf (fun _ hf => ?_) (fun _ hf => ?_)
      · refine ex_pu (ls' := [vR 165, vI v1, vI s0, vI z_15]) (st' := [vI 0]) (dg dc199 46 rfl) rfl rfl ?_
        exact ex_ire (dg dc199 47 rfl) rfl hf
      · refine ex_pu (ls' := [vR 165, vI v1, vI s0, vI z_15]) (st' := [vI 1]) (dg dc199 44 rfl) rfl rfl ?_
        refine ex_goto (t := 80) (dg dc199 45 rfl) rfl rfl ?_
        exact ex_ire (dg dc199 47 rfl) rfl hf
  · refine ex_pu (ls' := [vR 165, vI v1, vI s0, j3]) (st' := [vI (-1)]) (dg dc199 23 rfl) rfl rfl ?_
    refine ex_goto (t := 58) (dg dc199 24 rfl) rfl rfl ?_
    refine ex_pu (ls' := [vR 165, vI v1, vI s0, vI (-1)]) (st' := []) (dg dc199 33 rfl) rfl rfl ?_
    refine ex_pu (ls' := [vR 165, vI v1, vI s0, vI (-1)]) (st' := [vI (-1)]) (dg dc199 34 rfl) rfl rfl ?_
    refine ex_if0 (b := true) (t := 71) (dg dc199 35 rfl) rfl rfl ?_
    show EX Z _ 199 71 _ _ _ _
    refine ex_pu (ls' := [vR 165, vI v1, vI s0, vI (-1)]) (st' := [vI (-1)]) (dg dc199 42 rfl) rfl rfl ?_
    refine ex_if0 (b := true) (t := 79) (dg dc199 43 rfl) rfl rfl ?_
    show EX Z _ 199 79 _ _ _ _
    refine ex_pu (ls' := [vR 165, vI v1, vI s0, vI (-1)]) (st' := [vI 0]) (dg dc199 46 rfl) rfl rfl ?_
    exact ex_ire (dg dc199 47 rfl) rfl hf
def mo_readThing  (M : MM) : OR :=
  (bI (mo_things  M) fun z_3 M_2 => (bif cmpB .ne z_3 10 then (bI (mo_number 0 15 M_2) fun z_6 M_5 => (bif cmpB .ge z_6 0 then (bI (mo_after 54 1 99 M_5) fun z_9 M_8 => (mo_readThing_J36   z_6 z_9 M_8)) else (mo_readThing_J36   z_6 (-1) M_5))) else some (rI 0, M_2)))
set_option maxRecDepth 4000 in
theorem mo_readThing_ok {Z : Nat × (Nat → Int)} {d : Nat} (hd : 6 ≤ d) {M : MM}  {res : AR × MM} (hf : mo_readThing  M = some res) : EX Z d 199 0 (ent 199 [vR 165]) [] M res := by
  obtain ⟨e9, rfl⟩ : ∃ e9, d = e9 + 1 := ⟨d - 1, by omega⟩
  unfold mo_readThing at hf
  show EX Z _ 199 0 [vR 165, vU, vU, vU] [] M res
  refine ex_pu (ls' := [vR 165, vU, vU, vU]) (st' := [vR 165]) (dg dc199 0 rfl) rfl rfl ?_
  refine ex_cI (vs := [vR 165]) (st' := []) (F := (mo_things  M)) (Or.inr (Or.inl ⟨rfl, (dg dc199 1 rfl)⟩)) rfl rfl (rk1 (LOC.st (Nat.le_of_ble_eq_true rfl) rfl) rfl) rfl (fun _ r9 => mo_things_ok (Z := Z) (d := e9) (by omega)  r9) hf (fun z_3 M_2 he_1 hf => ?_)
  refine ex_pu (ls' := [vR 165, vU, vU, vU]) (st' := [vI 10, vI z_3]) (dg dc199 2 rfl) rfl rfl ?_
  refine ex_icmp (t := 11) (dg dc199 3 rfl) rfl hf (fun _ hf => ?_) (fun _ hf => ?_)
  · refine ex_pu (ls' := [vR 165, vU, vU, vU]) (st' := [vR 165]) (dg dc199 6 rfl) rfl rfl ?_
    refine ex_pu (ls' := [vR 165, vU, vU, vU]) (st' := [vI 0, vR 165]) (dg dc199 7 rfl) rfl rfl ?_
    refine ex_pu (ls' := [vR 165, vU, vU, vU]) (st' := [vI 15, vI 0, vR 165]) (dg dc199 8 rfl) rfl rfl ?_
    refine ex_cI (vs := [vR 165, vI 0, vI 15]) (st' := []) (F := (mo_number 0 15 M_2)) (Or.inr (Or.inl ⟨rfl, (dg dc199 9 rfl)⟩)) rfl rfl (rk1 (LOC.st (Nat.le_of_ble_eq_true rfl) rfl) rfl) rfl (fun _ r9 => mo_number_ok (Z := Z) (d := e9) (by omega)  r9) hf (fun z_6 M_5 he_4 hf => ?_)
    refine ex_pu (ls' := [vR 165, vI z_6, vU, vU]) (st' := []) (dg dc199 10 rfl) rfl rfl ?_
    refine ex_pu (ls' := [vR 165, vI z_6, vU, vU]) (st' := [vI z_6]) (dg dc199 11 rfl) rfl rfl ?_
    refine ex_if (t := 27) (dg dc199 12 rfl) rfl hf (fun _ hf => ?_) (fun _ hf => ?_)
    · refine ex_pu (ls' := [vR 165, vI z_6, vU, vU]) (st' := [vR 165]) (dg dc199 15 rfl) rfl rfl ?_
      refine ex_ldcT (dg dc199 16 rfl) rfl ?_
      refine ex_pu (ls' := [vR 165, vI z_6, vU, vU]) (st' := [vI 1, vR (E0 + 2 + 2 * 54), vR 165]) (dg dc199 17 rfl) rfl rfl ?_
      refine ex_pu (ls' := [vR 165, vI z_6, vU, vU]) (st' := [vI 99, vI 1, vR (E0 + 2 + 2 * 54), vR 165]) (dg dc199 18 rfl) rfl rfl ?_
      refine ex_cI (vs := [vR 165, vR (E0 + 2 + 2 * 54), vI 1, vI 99]) (st' := []) (F := (mo_after 54 1 99 M_5)) (Or.inr (Or.inl ⟨rfl, (dg dc199 19 rfl)⟩)) rfl rfl (rk1 (LOC.st (Nat.le_of_ble_eq_true rfl) rfl) rfl) rfl (fun _ r9 => mo_after_ok (Z := Z) (d := e9) (by omega) (by decide)  r9) hf (fun z_9 M_8 he_7 hf => ?_)
      exact mo_readThing_J36_ok hd   z_6 z_9 M_8 _ _ hf
    · refine ex_pu (ls' := [vR 165, vI z_6, vU, vU]) (st' := [vI (-1)]) (dg dc199 13 rfl) rfl rfl ?_
      refine ex_goto (t := 36) (dg dc199 14 rfl) rfl rfl ?_
      exact mo_readThing_J36_ok hd   z_6 (-1) M_5 _ _ hf
  · refine ex_pu (ls' := [vR 165, vU, vU, vU]) (st' := [vI 0]) (dg dc199 4 rfl) rfl rfl ?_
    exact ex_ire (dg dc199 5 rfl) rfl hf
-- GlassHillModel.readRoad
def il200 : List (Nat × Instr × Nat) := [(0, .sipush 130, 3), (3, .iconst 4, 1), (4, .aload_n 0, 1), (5, .invokevirtual 87, 3), (8, .imul, 1), (9, .iadd, 1), (10, .istore_n 1, 1), (11, .aload_n 0, 1), (12, .invokevirtual 87, 3), (15, .bipush 16, 2), (17, .if_icmp .ne 5, 3), (20, .iconst 0, 1), (21, .ireturn, 1), (22, .aload_n 0, 1), (23, .invokevirtual 147, 3), (26, .istore_n 2, 1), (27, .iload_n 2, 1), (28, .ifCond .ge 7, 3), (31, .iconst (-1), 1), (32, .goto 7, 3), (35, .aload_n 0, 1), (36, .invokevirtual 147, 3), (39, .istore_n 3, 1), (40, .iload_n 3, 1), (41, .ifCond .lt 8, 3), (44, .iload_n 2, 1), (45, .iload_n 3, 1), (46, .if_icmp .ne 5, 3), (49, .iconst 0, 1), (50, .ireturn, 1), (51, .aload_n 0, 1), (52, .ldc 150, 2), (54, .iconst 1, 1), (55, .bipush 9, 2), (57, .invokevirtual 137, 3), (60, .istore 4, 2), (62, .iload 4, 2), (64, .ifCond .ge 5, 3), (67, .iconst 0, 1), (68, .ireturn, 1), (69, .aload_n 0, 1), (70, .ldc 152, 2), (72, .invokevirtual 154, 3), (75, .ifCond .eq 13, 3), (78, .aload_n 0, 1), (79, .iconst 1, 1), (80, .bipush 100, 2), (82, .invokevirtual 128, 3), (85, .goto 5, 3), (88, .bipush 100, 2), (90, .istore 5, 2), (92, .iload 5, 2), (94, .ifCond .ge 5, 3), (97, .iconst 0, 1), (98, .ireturn, 1), (99, .aload_n 0, 1), (100, .getfield 13, 3), (103, .iload_n 1, 1), (104, .iload_n 2, 1), (105, .iastore, 1), (106, .aload_n 0, 1), (107, .getfield 13, 3), (110, .iload_n 1, 1), (111, .iconst 1, 1), (112, .iadd, 1), (113, .iload_n 3, 1), (114, .iastore, 1), (115, .aload_n 0, 1), (116, .getfield 13, 3), (119, .iload_n 1, 1), (120, .iconst 2, 1), (121, .iadd, 1), (122, .iload 4, 2), (124, .iastore, 1), (125, .aload_n 0, 1), (126, .getfield 13, 3), (129, .iload_n 1, 1), (130, .iconst 3, 1), (131, .iadd, 1), (132, .iload 5, 2), (134, .iastore, 1), (135, .aload_n 0, 1), (136, .getfield 13, 3), (139, .iconst 2, 1), (140, .dup2, 1), (141, .iaload, 1), (142, .iconst 1, 1), (143, .iadd, 1), (144, .iastore, 1), (145, .iconst 1, 1), (146, .ireturn, 1)]
theorem dc200 : dcs (mC 200) il200 := dc_of (by decide +kernel)
def mo_readRoad_J90   (v1 v2 v3 v4 s0 : Int) (M : MM) : OR :=
  (bif cmpB .ge s0 0 then (bif inB v1 1964 then (sM (mU M 166 (v1).toNat v2) fun M_19 => (bif inB (v1 + 1) 1964 then (sM (mU M_19 166 ((v1 + 1)).toNat v3) fun M_21 => (bif inB (v1 + 2) 1964 then (sM (mU M_21 166 ((v1 + 2)).toNat v4) fun M_23 => (bif inB (v1 + 3) 1964 then (sM (mU M_23 166 ((v1 + 3)).toNat s0) fun M_25 => (bif inB 2 1964 then (bif inB 2 1964 then (sM (mU M_25 166 2 ((M_25 166 2) + 1)) fun M_27 => some (rI 1, M_27)) else none) else none)) else none)) else none)) else none)) else none) else some (rI 0, M))
set_option maxRecDepth 4000 in
theorem mo_readRoad_J90_ok {Z : Nat × (Nat → Int)} {d : Nat} (hd : 6 ≤ d)   {res : AR × MM}  : ∀ (v1 v2 v3 v4 s0 : Int) (M : MM) (j5 : AV), mo_readRoad_J90   v1 v2 v3 v4 s0 M = some res → EX Z d 200 90 [vR 165, vI v1, vI v2, vI v3, vI v4, j5] [vI s0] M res := by
  obtain ⟨e9, rfl⟩ : ∃ e9, d = e9 + 1 := ⟨d - 1, by omega⟩
  intro v1 v2 v3 v4 s0 M j5 hf
  unfold mo_readRoad_J90 at hf
  refine ex_pu (ls' := [vR 165, vI v1, vI v2, vI v3, vI v4, vI s0]) (st' := []) (dg dc200 50 rfl) rfl rfl ?_
  refine ex_pu (ls' := [vR 165, vI v1, vI v2, vI v3, vI v4, vI s0]) (st' := [vI s0]) (dg dc200 51 rfl) rfl rfl ?_
  refine ex_if (t := 99) (dg dc200 52 rfl) rfl hf (fun _ hf => ?_) (fun _ hf => ?_)
  · refine ex_pu (ls' := [vR 165, vI v1, vI v2, vI v3, vI v4, vI s0]) (st' := [vR 165]) (dg dc200 55 rfl) rfl rfl ?_
    refine ex_getO (dg dc200 56 rfl) rfl (LOC.st (Nat.le_of_ble_eq_true rfl) rfl) rfl ?_
    show EX Z _ 200 _ [vR 165, vI v1, vI v2, vI v3, vI v4, vI s0] [vR 166] _ _
    refine ex_pu (ls' := [vR 165, vI v1, vI v2, vI v3, vI v4, vI s0]) (st' := [vI v1, vR 166]) (dg dc200 57 rfl) rfl rfl ?_
    refine ex_pu (ls' := [vR 165, vI v1, vI v2, vI v3, vI v4, vI s0]) (st' := [vI v2, vI v1, vR 166]) (dg dc200 58 rfl) rfl rfl ?_
    refine ex_iast (dg dc200 59 rfl) (LOC.st (Nat.le_of_ble_eq_true rfl) rfl) rfl rfl hf (fun _ hf => ?_)
    refine ex_gen hf (fun M_19 hM_20 hf => ?_)
    refine ex_pu (ls' := [vR 165, vI v1, vI v2, vI v3, vI v4, vI s0]) (st' := [vR 165]) (dg dc200 60 rfl) rfl rfl ?_
    refine ex_getO (dg dc200 61 rfl) rfl (LOC.st (Nat.le_of_ble_eq_true rfl) rfl) rfl ?_
    show EX Z _ 200 _ [vR 165, vI v1, vI v2, vI v3, vI v4, vI s0] [vR 166] _ _
    refine ex_pu (ls' := [vR 165, vI v1, vI v2, vI v3, vI v4, vI s0]) (st' := [vI v1, vR 166]) (dg dc200 62 rfl) rfl rfl ?_
    refine ex_pu (ls' := [vR 165, vI v1, vI v2, vI v3, vI v4, vI s0]) (st' := [vI 1, vI v1, vR 166]) (dg dc200 63 rfl) rfl rfl ?_
    refine ex_pu (ls' := [vR 165, vI v1, vI v2, vI v3, vI v4, vI s0]) (st' := [vI (v1 + 1), vR 166]) (dg dc200 64 rfl) rfl rfl ?_
    refine ex_pu (ls' := [vR 165, vI v1, vI v2, vI v3, vI v4, vI s0]) (st' := [vI v3, vI (v1 + 1), vR 166]) (dg dc200 65 rfl) rfl rfl ?_
    refine ex_iast (dg dc200 66 rfl) (LOC.st (Nat.le_of_ble_eq_true rfl) rfl) rfl rfl hf (fun _ hf => ?_)
    refine ex_gen hf (fun M_21 hM_22 hf => ?_)
    refine ex_pu (ls' := [vR 165, vI v1, vI v2, vI v3, vI v4, vI s0]) (st' := [vR 165]) (dg dc200 67 rfl) rfl rfl ?_
    refine ex_getO (dg dc200 68 rfl) rfl (LOC.st (Nat.le_of_ble_eq_true rfl) rfl) rfl ?_
    show EX Z _ 200 _ [vR 165, vI v1, vI v2, vI v3, vI v4, vI s0] [vR 166] _ _
    refine ex_pu (ls' := [vR 165, vI v1, vI v2, vI v3, vI v4, vI s0]) (st' := [vI v1, vR 166]) (dg dc200 69 rfl) rfl rfl ?_
    refine ex_pu (ls' := [vR 165, vI v1, vI v2, vI v3, vI v4, vI s0]) (st' := [vI 2, vI v1, vR 166]) (dg dc200 70 rfl) rfl rfl ?_
    refine ex_pu (ls' := [vR 165, vI v1, vI v2, vI v3, vI v4, vI s0]) (st' := [vI (v1 + 2), vR 166]) (dg dc200 71 rfl) rfl rfl ?_
    refine ex_pu (ls' := [vR 165, vI v1, vI v2, vI v3, vI v4, vI s0]) (st' := [vI v4, vI (v1 + 2), vR 166]) (dg dc200 72 rfl) rfl rfl ?_
    refine ex_iast (dg dc200 73 rfl) (LOC.st (Nat.le_of_ble_eq_true rfl) rfl) rfl rfl hf (fun _ hf => ?_)
    refine ex_gen hf (fun M_23 hM_24 hf => ?_)
    refine ex_pu (ls' := [vR 165, vI v1, vI v2, vI v3, vI v4, vI s0]) (st' := [vR 165]) (dg dc200 74 rfl) rfl rfl ?_
    refine ex_getO (dg dc200 75 rfl) rfl (LOC.st (Nat.le_of_ble_eq_true rfl) rfl) rfl ?_
    show EX Z _ 200 _ [vR 165, vI v1, vI v2, vI v3, vI v4, vI s0] [vR 166] _ _
    refine ex_pu (ls' := [vR 165, vI v1, vI v2, vI v3, vI v4, vI s0]) (st' := [vI v1, vR 166]) (dg dc200 76 rfl) rfl rfl ?_
    refine ex_pu (ls' := [vR 165, vI v1, vI v2, vI v3, vI v4, vI s0]) (st' := [vI 3, vI v1, vR 166]) (dg dc200 77 rfl) rfl rfl ?_
    refine ex_pu (ls' := [vR 165, vI v1, vI v2, vI v3, vI v4, vI s0]) (st' := [vI (v1 + 3), vR 166]) (dg dc200 78 rfl) rfl rfl ?_
    refine ex_pu (ls' := [vR 165, vI v1, vI v2, vI v3, vI v4, vI s0]) (st' := [vI s0, vI (v1 + 3), vR 166]) (dg dc200 79 rfl) rfl rfl ?_
    refine ex_iast (dg dc200 80 rfl) (LOC.st (Nat.le_of_ble_eq_true rfl) rfl) rfl rfl hf (fun _ hf => ?_)
    refine ex_gen hf (fun M_25 hM_26 hf => ?_)
    refine ex_pu (ls' := [vR 165, vI v1, vI v2, vI v3, vI v4, vI s0]) (st' := [vR 165]) (dg dc200 81 rfl) rfl rfl ?_
    refine ex_getO (dg dc200 82 rfl) rfl (LOC.st (Nat.le_of_ble_eq_true rfl) rfl) rfl ?_
    show EX Z _ 200 _ [vR 165, vI v1, vI v2, vI v3, vI v4, vI s0] [vR 166] _ _
    refine ex_pu (ls' := [vR 165, vI v1, vI v2, vI v3, vI v4, vI s0]) (st' := [vI 2, vR 166]) (dg dc200 83 rfl) rfl rfl ?_
    refine ex_pu (ls' := [vR 165, vI v1, vI v2, vI v3, vI v4, vI s0]) (st' := [vI 2, vR 166, vI 2, vR 166]) (dg dc200 84 rfl) rfl rfl ?_
    refine ex_iald (dg dc200 85 rfl) (LOC.st (Nat.le_of_ble_eq_true rfl) rfl) rfl hf (fun _ hf => ?_)
    refine ex_pu (ls' := [vR 165, vI v1, vI v2, vI v3, vI v4, vI s0]) (st' := [vI 1, vI (M_25 166 2), vI 2, vR 166]) (dg dc200 86 rfl) rfl rfl ?_
    refine ex_pu (ls' := [vR 165, vI v1, vI v2, vI v3, vI v4, vI s0]) (st' := [vI ((M_25 166 2) + 1), vI 2, vR 166]) (dg dc200 87 rfl) rfl rfl ?_
    refine ex_iast (dg dc200 88 rfl) (LOC.st (Nat.le_of_ble_eq_true rfl) rfl) rfl rfl hf (fun _ hf => ?_)
    refine ex_gen hf (fun M_27 hM_28 hf => ?_)
    refine ex_pu (ls' := [vR 165, vI v1, vI v2, vI v3, vI v4, vI s0]) (st' := [vI 1]) (dg dc200 89 rfl) rfl rfl ?_
    exact ex_ire (dg dc200 90 rfl) rfl hf
  · refine ex_pu (ls' := [vR 165, vI v1, vI v2, vI v3, vI v4, vI s0]) (st' := [vI 0]) (dg dc200 53 rfl) rfl rfl ?_
    exact ex_ire (dg dc200 54 rfl) rfl hf
def mo_readRoad_J39   (v1 v2 s0 : Int) (M : MM) : OR :=
  (bif cmpB .lt s0 0 then some (rI 0, M) else (bif cmpB .ne v2 s0 then (bI (mo_after 57 1 9 M) fun z_15 M_14 => (bif cmpB .ge z_15 0 then (bI (mo_passes 58 M_14) fun z_18 M_17 => (bif cmpB .eq z_18 0 then (mo_readRoad_J90   v1 v2 s0 z_15 100 M_17) else (bI (mo_number 1 100 M_17) fun z_31 M_30 => (mo_readRoad_J90   v1 v2 s0 z_15 z_31 M_30)))) else some (rI 0, M_14))) else some (rI 0, M)))
set_option maxRecDepth 4000 in
theorem mo_readRoad_J39_ok {Z : Nat × (Nat → Int)} {d : Nat} (hd : 6 ≤ d)   {res : AR × MM}  : ∀ (v1 v2 s0 : Int) (M : MM) (j3 j4 j5 : AV), mo_readRoad_J39   v1 v2 s0 M = some res → EX Z d 200 39 [vR 165, vI v1, vI v2, j3, j4, j5] [vI s0] M res := by
  obtain ⟨e9, rfl⟩ : ∃ e9, d = e9 + 1 := ⟨d - 1, by omega⟩
  intro v1 v2 s0 M j3 j4 j5 hf
  unfold mo_readRoad_J39 at hf
  refine ex_pu (ls' := [vR 165, vI v1, vI v2, vI s0, j4, j5]) (st' := []) (dg dc200 22 rfl) rfl rfl ?_
  refine ex_pu (ls' := [vR 165, vI v1, vI v2, vI s0, j4, j5]) (st' := [vI s0]) (dg dc200 23 rfl) rfl rfl ?_
  refine ex_if (t := 49) (dg dc200 24 rfl) rfl hf (fun _ hf => ?_) (fun _ hf => ?_)
  · refine ex_pu (ls' := [vR 165, vI v1, vI v2, vI s0, j4, j5]) (st' := [vI 0]) (dg dc200 28 rfl) rfl rfl ?_
    exact ex_ire (dg dc200 29 rfl) rfl hf
  · refine ex_pu (ls' := [vR 165, vI v1, vI v2, vI s0, j4, j5]) (st' := [vI v2]) (dg dc200 25 rfl) rfl rfl ?_
    refine ex_pu (ls' := [vR 165, vI v1, vI v2, vI s0, j4, j5]) (st' := [vI s0, vI v2]) (dg dc200 26 rfl) rfl rfl ?_
    refine ex_icmp (t := 51) (dg dc200 27 rfl) rfl hf (fun _ hf => ?_) (fun _ hf => ?_)
    · refine ex_pu (ls' := [vR 165, vI v1, vI v2, vI s0, j4, j5]) (st' := [vR 165]) (dg dc200 30 rfl) rfl rfl ?_
      refine ex_ldcT (dg dc200 31 rfl) rfl ?_
      refine ex_pu (ls' := [vR 165, vI v1, vI v2, vI s0, j4, j5]) (st' := [vI 1, vR (E0 + 2 + 2 * 57), vR 165]) (dg dc200 32 rfl) rfl rfl ?_
      refine ex_pu (ls' := [vR 165, vI v1, vI v2, vI s0, j4, j5]) (st' := [vI 9, vI 1, vR (E0 + 2 + 2 * 57), vR 165]) (dg dc200 33 rfl) rfl rfl ?_
      refine ex_cI (vs := [vR 165, vR (E0 + 2 + 2 * 57), vI 1, vI 9]) (st' := []) (F := (mo_after 57 1 9 M)) (Or.inr (Or.inl ⟨rfl, (dg dc200 34 rfl)⟩)) rfl rfl (rk1 (LOC.st (Nat.le_of_ble_eq_true rfl) rfl) rfl) rfl (fun _ r9 => mo_after_ok (Z := Z) (d := e9) (by omega) (by decide)  r9) hf (fun z_15 M_14 he_13 hf => ?_)
      refine ex_pu (ls' := [vR 165, vI v1, vI v2, vI s0, vI z_15, j5]) (st' := []) (dg dc200 35 rfl) rfl rfl ?_
      refine ex_pu (ls' := [vR 165, vI v1, vI v2, vI s0, vI z_15, j5]) (st' := [vI z_15]) (dg dc200 36 rfl) rfl rfl ?_
      refine ex_if (t := 69) (dg dc200 37 rfl) rfl hf (fun _ hf => ?_) (fun _ hf => ?_)
      · refine ex_pu (ls' := [vR 165, vI v1, vI v2, vI s0, vI z_15, j5]) (st' := [vR 165]) (dg dc200 40 rfl) rfl rfl ?_
        refine ex_ldcT (dg dc200 41 rfl) rfl ?_
        refine ex_cI (vs := [vR 165, vR (E0 + 2 + 2 * 58)]) (st' := []) (F := (mo_passes 58 M_14)) (Or.inr (Or.inl ⟨rfl, (dg dc200 42 rfl)⟩)) rfl rfl (rk1 (LOC.st (Nat.le_of_ble_eq_true rfl) rfl) rfl) rfl (fun _ r9 => mo_passes_ok (Z := Z) (d := e9) (by omega) (by decide)  r9) hf (fun z_18 M_17 he_16 hf => ?_)
        refine ex_if (t := 88) (dg dc200 43 rfl) rfl hf (fun _ hf => ?_) (fun _ hf => ?_)
        · refine ex_pu (ls' := [vR 165, vI v1, vI v2, vI s0, vI z_15, j5]) (st' := [vI 100]) (dg dc200 49 rfl) rfl rfl ?_
          exact mo_readRoad_J90_ok hd   v1 v2 s0 z_15 100 M_17 _ hf
        · refine ex_pu (ls' := [vR 165, vI v1, vI v2, vI s0, vI z_15, j5]) (st' := [vR 165]) (dg dc200 44 rfl) rfl rfl ?_
          refine ex_pu (ls' := [vR 165, vI v1, vI v2, vI s0, vI z_15, j5]) (st' := [vI 1, vR 165]) (dg dc200 45 rfl) rfl rfl ?_
          refine ex_pu (ls' := [vR 165, vI v1, vI v2, vI s0, vI z_15, j5]) (st' := [vI 100, vI 1, vR 165]) (dg dc200 46 rfl) rfl rfl ?_
          refine ex_cI (vs := [vR 165, vI 1, vI 100]) (st' := []) (F := (mo_number 1 100 M_17)) (Or.inr (Or.inl ⟨rfl, (dg dc200 47 rfl)⟩)) rfl rfl (rk1 (LOC.st (Nat.le_of_ble_eq_true rfl) rfl) rfl) rfl (fun _ r9 => mo_number_ok (Z := Z) (d := e9) (by omega)  r9) hf (fun z_31 M_30 he_29 hf => ?_)
          refine ex_goto (t := 90) (dg dc200 48 rfl) rfl rfl ?_
          exact mo_readRoad_J90_ok hd   v1 v2 s0 z_15 z_31 M_30 _ hf
      · refine ex_pu (ls' := [vR 165, vI v1, vI v2, vI s0, vI z_15, j5]) (st' := [vI 0]) (dg dc200 38 rfl) rfl rfl ?_
        exact ex_ire (dg dc200 39 rfl) rfl hf
    · refine ex_pu (ls' := [vR 165, vI v1, vI v2, vI s0, j4, j5]) (st' := [vI 0]) (dg dc200 28 rfl) rfl rfl ?_
      exact ex_ire (dg dc200 29 rfl) rfl hf
def mo_readRoad  (M : MM) : OR :=
  (bI (mo_roads  M) fun z_3 M_2 => (bI (mo_roads  M_2) fun z_6 M_5 => (bif cmpB .ne z_6 16 then (bI (mo_placeTold  M_5) fun z_9 M_8 => (bif cmpB .ge z_9 0 then (bI (mo_placeTold  M_8) fun z_12 M_11 => (mo_readRoad_J39   (130 + (4 * z_3)) z_9 z_12 M_11)) else (mo_readRoad_J39   (130 + (4 * z_3)) z_9 (-1) M_8))) else some (rI 0, M_5))))
set_option maxRecDepth 4000 in
theorem mo_readRoad_ok {Z : Nat × (Nat → Int)} {d : Nat} (hd : 6 ≤ d) {M : MM}  {res : AR × MM} (hf : mo_readRoad  M = some res) : EX Z d 200 0 (ent 200 [vR 165]) [] M res := by
  obtain ⟨e9, rfl⟩ : ∃ e9, d = e9 + 1 := ⟨d - 1, by omega⟩
  unfold mo_readRoad at hf
  show EX Z _ 200 0 [vR 165, vU, vU, vU, vU, vU] [] M res
  refine ex_pu (ls' := [vR 165, vU, vU, vU, vU, vU]) (st' := [vI 130]) (dg dc200 0 rfl) rfl rfl ?_
  refine ex_pu (ls' := [vR 165, vU, vU, vU, vU, vU]) (st' := [vI 4, vI 130]) (dg dc200 1 rfl) rfl rfl ?_
  refine ex_pu (ls' := [vR 165, vU, vU, vU, vU, vU]) (st' := [vR 165, vI 4, vI 130]) (dg dc200 2 rfl) rfl rfl ?_
  refine ex_cI (vs := [vR 165]) (st' := [vI 4, vI 130]) (F := (mo_roads  M)) (Or.inr (Or.inl ⟨rfl, (dg dc200 3 rfl)⟩)) rfl rfl (rk1 (LOC.st (Nat.le_of_ble_eq_true rfl) rfl) rfl) rfl (fun _ r9 => mo_roads_ok (Z := Z) (d := e9) (by omega)  r9) hf (fun z_3 M_2 he_1 hf => ?_)
  refine ex_pu (ls' := [vR 165, vU, vU, vU, vU, vU]) (st' := [vI (4 * z_3), vI 130]) (dg dc200 4 rfl) rfl rfl ?_
  refine ex_pu (ls' := [vR 165, vU, vU, vU, vU, vU]) (st' := [vI (130 + (4 * z_3))]) (dg dc200 5 rfl) rfl rfl ?_
  refine ex_pu (ls' := [vR 165, vI (130 + (4 * z_3)), vU, vU, vU, vU]) (st' := []) (dg dc200 6 rfl) rfl rfl ?_
  refine ex_pu (ls' := [vR 165, vI (130 + (4 * z_3)), vU, vU, vU, vU]) (st' := [vR 165]) (dg dc200 7 rfl) rfl rfl ?_
  refine ex_cI (vs := [vR 165]) (st' := []) (F := (mo_roads  M_2)) (Or.inr (Or.inl ⟨rfl, (dg dc200 8 rfl)⟩)) rfl rfl (rk1 (LOC.st (Nat.le_of_ble_eq_true rfl) rfl) rfl) rfl (fun _ r9 => mo_roads_ok (Z := Z) (d := e9) (by omega)  r9) hf (fun z_6 M_5 he_4 hf => ?_)
  refine ex_pu (ls' := [vR 165, vI (130 + (4 * z_3)), vU, vU, vU, vU]) (st' := [vI 16, vI z_6]) (dg dc200 9 rfl) rfl rfl ?_
  refine ex_icmp (t := 22) (dg dc200 10 rfl) rfl hf (fun _ hf => ?_) (fun _ hf => ?_)
  · refine ex_pu (ls' := [vR 165, vI (130 + (4 * z_3)), vU, vU, vU, vU]) (st' := [vR 165]) (dg dc200 13 rfl) rfl rfl ?_
    refine ex_cI (vs := [vR 165]) (st' := []) (F := (mo_placeTold  M_5)) (Or.inr (Or.inl ⟨rfl, (dg dc200 14 rfl)⟩)) rfl rfl (rk1 (LOC.st (Nat.le_of_ble_eq_true rfl) rfl) rfl) rfl (fun _ r9 => mo_placeTold_ok (Z := Z) (d := e9) (by omega)  r9) hf (fun z_9 M_8 he_7 hf => ?_)
    refine ex_pu (ls' := [vR 165, vI (130 + (4 * z_3)), vI z_9, vU, vU, vU]) (st' := []) (dg dc200 15 rfl) rfl rfl ?_
    refine ex_pu (ls' := [vR 165, vI (130 + (4 * z_3)), vI z_9, vU, vU, vU]) (st' := [vI z_9]) (dg dc200 16 rfl) rfl rfl ?_
    refine ex_if (t := 35) (dg dc200 17 rfl) rfl hf (fun _ hf => ?_) (fun _ hf => ?_)
    · refine ex_pu (ls' := [vR 165, vI (130 + (4 * z_3)), vI z_9, vU, vU, vU]) (st' := [vR 165]) (dg dc200 20 rfl) rfl rfl ?_
      refine ex_cI (vs := [vR 165]) (st' := []) (F := (mo_placeTold  M_8)) (Or.inr (Or.inl ⟨rfl, (dg dc200 21 rfl)⟩)) rfl rfl (rk1 (LOC.st (Nat.le_of_ble_eq_true rfl) rfl) rfl) rfl (fun _ r9 => mo_placeTold_ok (Z := Z) (d := e9) (by omega)  r9) hf (fun z_12 M_11 he_10 hf => ?_)
      exact mo_readRoad_J39_ok hd   (130 + (4 * z_3)) z_9 z_12 M_11 _ _ _ hf
    · refine ex_pu (ls' := [vR 165, vI (130 + (4 * z_3)), vI z_9, vU, vU, vU]) (st' := [vI (-1)]) (dg dc200 18 rfl) rfl rfl ?_
      refine ex_goto (t := 39) (dg dc200 19 rfl) rfl rfl ?_
      exact mo_readRoad_J39_ok hd   (130 + (4 * z_3)) z_9 (-1) M_8 _ _ _ hf
  · refine ex_pu (ls' := [vR 165, vI (130 + (4 * z_3)), vU, vU, vU, vU]) (st' := [vI 0]) (dg dc200 11 rfl) rfl rfl ?_
    exact ex_ire (dg dc200 12 rfl) rfl hf
-- GlassHillModel.readEating
def il201 : List (Nat × Instr × Nat) := [(0, .aload_n 0, 1), (1, .iconst 0, 1), (2, .bipush 23, 2), (4, .invokevirtual 128, 3), (7, .istore_n 2, 1), (8, .iload_n 2, 1), (9, .ifCond .ge 7, 3), (12, .iconst (-1), 1), (13, .goto 12, 3), (16, .aload_n 0, 1), (17, .ldc 157, 2), (19, .iload_n 2, 1), (20, .bipush 23, 2), (22, .invokevirtual 137, 3), (25, .istore_n 3, 1), (26, .aload_n 0, 1), (27, .iload_n 1, 1), (28, .iconst 3, 1), (29, .iload_n 2, 1), (30, .invokevirtual 131, 3), (33, .aload_n 0, 1), (34, .iload_n 1, 1), (35, .iconst 4, 1), (36, .iload_n 3, 1), (37, .invokevirtual 131, 3), (40, .iload_n 3, 1), (41, .ifCond .lt 7, 3), (44, .iconst 1, 1), (45, .goto 4, 3), (48, .iconst 0, 1), (49, .ireturn, 1)]
theorem dc201 : dcs (mC 201) il201 := dc_of (by decide +kernel)
def mo_readEating_J25   (v1 v2 s0 : Int) (M : MM) : OR :=
  (bV (mo_sets v1 3 v2 M) fun M_8 => (bV (mo_sets v1 4 s0 M_8) fun M_11 => (bif cmpB .lt s0 0 then some (rI 0, M_11) else some (rI 1, M_11))))
set_option maxRecDepth 4000 in
theorem mo_readEating_J25_ok {Z : Nat × (Nat → Int)} {d : Nat} (hd : 6 ≤ d)   {res : AR × MM}  : ∀ (v1 v2 s0 : Int) (M : MM) (j3 : AV), mo_readEating_J25   v1 v2 s0 M = some res → EX Z d 201 25 [vR 165, vI v1, vI v2, j3] [vI s0] M res := by
  obtain ⟨e9, rfl⟩ : ∃ e9, d = e9 + 1 := ⟨d - 1, by omega⟩
  intro v1 v2 s0 M j3 hf
  unfold mo_readEating_J25 at hf
  refine ex_pu (ls' := [vR 165, vI v1, vI v2, vI s0]) (st' := []) (dg dc201 14 rfl) rfl rfl ?_
  refine ex_pu (ls' := [vR 165, vI v1, vI v2, vI s0]) (st' := [vR 165]) (dg dc201 15 rfl) rfl rfl ?_
  refine ex_pu (ls' := [vR 165, vI v1, vI v2, vI s0]) (st' := [vI v1, vR 165]) (dg dc201 16 rfl) rfl rfl ?_
  refine ex_pu (ls' := [vR 165, vI v1, vI v2, vI s0]) (st' := [vI 3, vI v1, vR 165]) (dg dc201 17 rfl) rfl rfl ?_
  refine ex_pu (ls' := [vR 165, vI v1, vI v2, vI s0]) (st' := [vI v2, vI 3, vI v1, vR 165]) (dg dc201 18 rfl) rfl rfl ?_
  refine ex_cV (vs := [vR 165, vI v1, vI 3, vI v2]) (st' := []) (F := (mo_sets v1 3 v2 M)) (Or.inr (Or.inl ⟨rfl, (dg dc201 19 rfl)⟩)) rfl rfl (rk1 (LOC.st (Nat.le_of_ble_eq_true rfl) rfl) rfl) rfl (fun _ r9 => mo_sets_ok (Z := Z) (d := e9) (by omega)  r9) hf (fun M_8 he_7 hf => ?_)
  refine ex_pu (ls' := [vR 165, vI v1, vI v2, vI s0]) (st' := [vR 165]) (dg dc201 20 rfl) rfl rfl ?_
  refine ex_pu (ls' := [vR 165, vI v1, vI v2, vI s0]) (st' := [vI v1, vR 165]) (dg dc201 21 rfl) rfl rfl ?_
  refine ex_pu (ls' := [vR 165, vI v1, vI v2, vI s0]) (st' := [vI 4, vI v1, vR 165]) (dg dc201 22 rfl) rfl rfl ?_
  refine ex_pu (ls' := [vR 165, vI v1, vI v2, vI s0]) (st' := [vI s0, vI 4, vI v1, vR 165]) (dg dc201 23 rfl) rfl rfl ?_
  refine ex_cV (vs := [vR 165, vI v1, vI 4, vI s0]) (st' := []) (F := (mo_sets v1 4 s0 M_8)) (Or.inr (Or.inl ⟨rfl, (dg dc201 24 rfl)⟩)) rfl rfl (rk1 (LOC.st (Nat.le_of_ble_eq_true rfl) rfl) rfl) rfl (fun _ r9 => mo_sets_ok (Z := Z) (d := e9) (by omega)  r9) hf (fun M_11 he_10 hf => ?_)
  refine ex_pu (ls' := [vR 165, vI v1, vI v2, vI s0]) (st' := [vI s0]) (dg dc201 25 rfl) rfl rfl ?_
  refine ex_if (t := 48) (dg dc201 26 rfl) rfl hf (fun _ hf => ?_) (fun _ hf => ?_)
  · refine ex_pu (ls' := [vR 165, vI v1, vI v2, vI s0]) (st' := [vI 0]) (dg dc201 29 rfl) rfl rfl ?_
    exact ex_ire (dg dc201 30 rfl) rfl hf
  · refine ex_pu (ls' := [vR 165, vI v1, vI v2, vI s0]) (st' := [vI 1]) (dg dc201 27 rfl) rfl rfl ?_
    refine ex_goto (t := 49) (dg dc201 28 rfl) rfl rfl ?_
    exact ex_ire (dg dc201 30 rfl) rfl hf
def mo_readEating (v1 : Int) (M : MM) : OR :=
  (bI (mo_number 0 23 M) fun z_3 M_2 => (bif cmpB .ge z_3 0 then (bI (mo_after 62 z_3 23 M_2) fun z_6 M_5 => (mo_readEating_J25   v1 z_3 z_6 M_5)) else (mo_readEating_J25   v1 z_3 (-1) M_2)))
set_option maxRecDepth 4000 in
theorem mo_readEating_ok {Z : Nat × (Nat → Int)} {d : Nat} (hd : 6 ≤ d) {M : MM}  {v1 : Int} {res : AR × MM} (hf : mo_readEating v1 M = some res) : EX Z d 201 0 (ent 201 [vR 165, vI v1]) [] M res := by
  obtain ⟨e9, rfl⟩ : ∃ e9, d = e9 + 1 := ⟨d - 1, by omega⟩
  unfold mo_readEating at hf
  show EX Z _ 201 0 [vR 165, vI v1, vU, vU] [] M res
  refine ex_pu (ls' := [vR 165, vI v1, vU, vU]) (st' := [vR 165]) (dg dc201 0 rfl) rfl rfl ?_
  refine ex_pu (ls' := [vR 165, vI v1, vU, vU]) (st' := [vI 0, vR 165]) (dg dc201 1 rfl) rfl rfl ?_
  refine ex_pu (ls' := [vR 165, vI v1, vU, vU]) (st' := [vI 23, vI 0, vR 165]) (dg dc201 2 rfl) rfl rfl ?_
  refine ex_cI (vs := [vR 165, vI 0, vI 23]) (st' := []) (F := (mo_number 0 23 M)) (Or.inr (Or.inl ⟨rfl, (dg dc201 3 rfl)⟩)) rfl rfl (rk1 (LOC.st (Nat.le_of_ble_eq_true rfl) rfl) rfl) rfl (fun _ r9 => mo_number_ok (Z := Z) (d := e9) (by omega)  r9) hf (fun z_3 M_2 he_1 hf => ?_)
  refine ex_pu (ls' := [vR 165, vI v1, vI z_3, vU]) (st' := []) (dg dc201 4 rfl) rfl rfl ?_
  refine ex_pu (ls' := [vR 165, vI v1, vI z_3, vU]) (st' := [vI z_3]) (dg dc201 5 rfl) rfl rfl ?_
  refine ex_if (t := 16) (dg dc201 6 rfl) rfl hf (fun _ hf => ?_) (fun _ hf => ?_)
  · refine ex_pu (ls' := [vR 165, vI v1, vI z_3, vU]) (st' := [vR 165]) (dg dc201 9 rfl) rfl rfl ?_
    refine ex_ldcT (dg dc201 10 rfl) rfl ?_
    refine ex_pu (ls' := [vR 165, vI v1, vI z_3, vU]) (st' := [vI z_3, vR (E0 + 2 + 2 * 62), vR 165]) (dg dc201 11 rfl) rfl rfl ?_
    refine ex_pu (ls' := [vR 165, vI v1, vI z_3, vU]) (st' := [vI 23, vI z_3, vR (E0 + 2 + 2 * 62), vR 165]) (dg dc201 12 rfl) rfl rfl ?_
    refine ex_cI (vs := [vR 165, vR (E0 + 2 + 2 * 62), vI z_3, vI 23]) (st' := []) (F := (mo_after 62 z_3 23 M_2)) (Or.inr (Or.inl ⟨rfl, (dg dc201 13 rfl)⟩)) rfl rfl (rk1 (LOC.st (Nat.le_of_ble_eq_true rfl) rfl) rfl) rfl (fun _ r9 => mo_after_ok (Z := Z) (d := e9) (by omega) (by decide)  r9) hf (fun z_6 M_5 he_4 hf => ?_)
    exact mo_readEating_J25_ok hd   v1 z_3 z_6 M_5 _ hf
  · refine ex_pu (ls' := [vR 165, vI v1, vI z_3, vU]) (st' := [vI (-1)]) (dg dc201 7 rfl) rfl rfl ?_
    refine ex_goto (t := 25) (dg dc201 8 rfl) rfl rfl ?_
    exact mo_readEating_J25_ok hd   v1 z_3 (-1) M_2 _ hf
-- GlassHillModel.readHaving
def il202 : List (Nat × Instr × Nat) := [(0, .aload_n 0, 1), (1, .invokevirtual 84, 3), (4, .bipush 10, 2), (6, .if_icmp .ne 5, 3), (9, .iconst 0, 1), (10, .ireturn, 1), (11, .aload_n 0, 1), (12, .iconst 0, 1), (13, .bipush 15, 2), (15, .invokevirtual 128, 3), (18, .istore_n 2, 1), (19, .iload_n 2, 1), (20, .ifCond .ge 7, 3), (23, .iconst (-1), 1), (24, .goto 12, 3), (27, .aload_n 0, 1), (28, .ldc 135, 2), (30, .iconst 1, 1), (31, .bipush 99, 2), (33, .invokevirtual 137, 3), (36, .istore_n 3, 1), (37, .iload_n 3, 1), (38, .ifCond .ge 5, 3), (41, .iconst 0, 1), (42, .ireturn, 1), (43, .aload_n 0, 1), (44, .iload_n 1, 1), (45, .bipush 6, 2), (47, .aload_n 0, 1), (48, .invokevirtual 84, 3), (51, .invokevirtual 131, 3), (54, .aload_n 0, 1), (55, .iload_n 2, 1), (56, .iload_n 3, 1), (57, .iconst 1, 1), (58, .iload_n 1, 1), (59, .invokevirtual 143, 3), (62, .iconst 1, 1), (63, .ireturn, 1)]
theorem dc202 : dcs (mC 202) il202 := dc_of (by decide +kernel)
def mo_readHaving_J36   (v1 v2 s0 : Int) (M : MM) : OR :=
  (bif cmpB .ge s0 0 then (bI (mo_things  M) fun z_12 M_11 => (bV (mo_sets v1 6 z_12 M_11) fun M_14 => (bV (mo_appends v2 s0 1 v1 M_14) fun M_17 => some (rI 1, M_17)))) else some (rI 0, M))
set_option maxRecDepth 4000 in
theorem mo_readHaving_J36_ok {Z : Nat × (Nat → Int)} {d : Nat} (hd : 6 ≤ d)   {res : AR × MM}  : ∀ (v1 v2 s0 : Int) (M : MM) (j3 : AV), mo_readHaving_J36   v1 v2 s0 M = some res → EX Z d 202 36 [vR 165, vI v1, vI v2, j3] [vI s0] M res := by
  obtain ⟨e9, rfl⟩ : ∃ e9, d = e9 + 1 := ⟨d - 1, by omega⟩
  intro v1 v2 s0 M j3 hf
  unfold mo_readHaving_J36 at hf
  refine ex_pu (ls' := [vR 165, vI v1, vI v2, vI s0]) (st' := []) (dg dc202 20 rfl) rfl rfl ?_
  refine ex_pu (ls' := [vR 165, vI v1, vI v2, vI s0]) (st' := [vI s0]) (dg dc202 21 rfl) rfl rfl ?_
  refine ex_if (t := 43) (dg dc202 22 rfl) rfl hf (fun _ hf => ?_) (fun _ hf => ?_)
  · refine ex_pu (ls' := [vR 165, vI v1, vI v2, vI s0]) (st' := [vR 165]) (dg dc202 25 rfl) rfl rfl ?_
    refine ex_pu (ls' := [vR 165, vI v1, vI v2, vI s0]) (st' := [vI v1, vR 165]) (dg dc202 26 rfl) rfl rfl ?_
    refine ex_pu (ls' := [vR 165, vI v1, vI v2, vI s0]) (st' := [vI 6, vI v1, vR 165]) (dg dc202 27 rfl) rfl rfl ?_
    refine ex_pu (ls' := [vR 165, vI v1, vI v2, vI s0]) (st' := [vR 165, vI 6, vI v1, vR 165]) (dg dc202 28 rfl) rfl rfl ?_
    refine ex_cI (vs := [vR 165]) (st' := [vI 6, vI v1, vR 165]) (F := (mo_things  M)) (Or.inr (Or.inl ⟨rfl, (dg dc202 29 rfl)⟩)) rfl rfl (rk1 (LOC.st (Nat.le_of_ble_eq_true rfl) rfl) rfl) rfl (fun _ r9 => mo_things_ok (Z := Z) (d := e9) (by omega)  r9) hf (fun z_12 M_11 he_10 hf => ?_)
    refine ex_cV (vs := [vR 165, vI v1, vI 6, vI z_12]) (st' := []) (F := (mo_sets v1 6 z_12 M_11)) (Or.inr (Or.inl ⟨rfl, (dg dc202 30 rfl)⟩)) rfl rfl (rk1 (LOC.st (Nat.le_of_ble_eq_true rfl) rfl) rfl) rfl (fun _ r9 => mo_sets_ok (Z := Z) (d := e9) (by omega)  r9) hf (fun M_14 he_13 hf => ?_)
    refine ex_pu (ls' := [vR 165, vI v1, vI v2, vI s0]) (st' := [vR 165]) (dg dc202 31 rfl) rfl rfl ?_
    refine ex_pu (ls' := [vR 165, vI v1, vI v2, vI s0]) (st' := [vI v2, vR 165]) (dg dc202 32 rfl) rfl rfl ?_
    refine ex_pu (ls' := [vR 165, vI v1, vI v2, vI s0]) (st' := [vI s0, vI v2, vR 165]) (dg dc202 33 rfl) rfl rfl ?_
    refine ex_pu (ls' := [vR 165, vI v1, vI v2, vI s0]) (st' := [vI 1, vI s0, vI v2, vR 165]) (dg dc202 34 rfl) rfl rfl ?_
    refine ex_pu (ls' := [vR 165, vI v1, vI v2, vI s0]) (st' := [vI v1, vI 1, vI s0, vI v2, vR 165]) (dg dc202 35 rfl) rfl rfl ?_
    refine ex_cV (vs := [vR 165, vI v2, vI s0, vI 1, vI v1]) (st' := []) (F := (mo_appends v2 s0 1 v1 M_14)) (Or.inr (Or.inl ⟨rfl, (dg dc202 36 rfl)⟩)) rfl rfl (rk1 (LOC.st (Nat.le_of_ble_eq_true rfl) rfl) rfl) rfl (fun _ r9 => mo_appends_ok (Z := Z) (d := e9) (by omega)  r9) hf (fun M_17 he_16 hf => ?_)
    refine ex_pu (ls' := [vR 165, vI v1, vI v2, vI s0]) (st' := [vI 1]) (dg dc202 37 rfl) rfl rfl ?_
    exact ex_ire (dg dc202 38 rfl) rfl hf
  · refine ex_pu (ls' := [vR 165, vI v1, vI v2, vI s0]) (st' := [vI 0]) (dg dc202 23 rfl) rfl rfl ?_
    exact ex_ire (dg dc202 24 rfl) rfl hf
def mo_readHaving (v1 : Int) (M : MM) : OR :=
  (bI (mo_things  M) fun z_3 M_2 => (bif cmpB .ne z_3 10 then (bI (mo_number 0 15 M_2) fun z_6 M_5 => (bif cmpB .ge z_6 0 then (bI (mo_after 54 1 99 M_5) fun z_9 M_8 => (mo_readHaving_J36   v1 z_6 z_9 M_8)) else (mo_readHaving_J36   v1 z_6 (-1) M_5))) else some (rI 0, M_2)))
set_option maxRecDepth 4000 in
theorem mo_readHaving_ok {Z : Nat × (Nat → Int)} {d : Nat} (hd : 6 ≤ d) {M : MM}  {v1 : Int} {res : AR × MM} (hf : mo_readHaving v1 M = some res) : EX Z d 202 0 (ent 202 [vR 165, vI v1]) [] M res := by
  obtain ⟨e9, rfl⟩ : ∃ e9, d = e9 + 1 := ⟨d - 1, by omega⟩
  unfold mo_readHaving at hf
  show EX Z _ 202 0 [vR 165, vI v1, vU, vU] [] M res
  refine ex_pu (ls' := [vR 165, vI v1, vU, vU]) (st' := [vR 165]) (dg dc202 0 rfl) rfl rfl ?_
  refine ex_cI (vs := [vR 165]) (st' := []) (F := (mo_things  M)) (Or.inr (Or.inl ⟨rfl, (dg dc202 1 rfl)⟩)) rfl rfl (rk1 (LOC.st (Nat.le_of_ble_eq_true rfl) rfl) rfl) rfl (fun _ r9 => mo_things_ok (Z := Z) (d := e9) (by omega)  r9) hf (fun z_3 M_2 he_1 hf => ?_)
  refine ex_pu (ls' := [vR 165, vI v1, vU, vU]) (st' := [vI 10, vI z_3]) (dg dc202 2 rfl) rfl rfl ?_
  refine ex_icmp (t := 11) (dg dc202 3 rfl) rfl hf (fun _ hf => ?_) (fun _ hf => ?_)
  · refine ex_pu (ls' := [vR 165, vI v1, vU, vU]) (st' := [vR 165]) (dg dc202 6 rfl) rfl rfl ?_
    refine ex_pu (ls' := [vR 165, vI v1, vU, vU]) (st' := [vI 0, vR 165]) (dg dc202 7 rfl) rfl rfl ?_
    refine ex_pu (ls' := [vR 165, vI v1, vU, vU]) (st' := [vI 15, vI 0, vR 165]) (dg dc202 8 rfl) rfl rfl ?_
    refine ex_cI (vs := [vR 165, vI 0, vI 15]) (st' := []) (F := (mo_number 0 15 M_2)) (Or.inr (Or.inl ⟨rfl, (dg dc202 9 rfl)⟩)) rfl rfl (rk1 (LOC.st (Nat.le_of_ble_eq_true rfl) rfl) rfl) rfl (fun _ r9 => mo_number_ok (Z := Z) (d := e9) (by omega)  r9) hf (fun z_6 M_5 he_4 hf => ?_)
    refine ex_pu (ls' := [vR 165, vI v1, vI z_6, vU]) (st' := []) (dg dc202 10 rfl) rfl rfl ?_
    refine ex_pu (ls' := [vR 165, vI v1, vI z_6, vU]) (st' := [vI z_6]) (dg dc202 11 rfl) rfl rfl ?_
    refine ex_if (t := 27) (dg dc202 12 rfl) rfl hf (fun _ hf => ?_) (fun _ hf => ?_)
    · refine ex_pu (ls' := [vR 165, vI v1, vI z_6, vU]) (st' := [vR 165]) (dg dc202 15 rfl) rfl rfl ?_
      refine ex_ldcT (dg dc202 16 rfl) rfl ?_
      refine ex_pu (ls' := [vR 165, vI v1, vI z_6, vU]) (st' := [vI 1, vR (E0 + 2 + 2 * 54), vR 165]) (dg dc202 17 rfl) rfl rfl ?_
      refine ex_pu (ls' := [vR 165, vI v1, vI z_6, vU]) (st' := [vI 99, vI 1, vR (E0 + 2 + 2 * 54), vR 165]) (dg dc202 18 rfl) rfl rfl ?_
      refine ex_cI (vs := [vR 165, vR (E0 + 2 + 2 * 54), vI 1, vI 99]) (st' := []) (F := (mo_after 54 1 99 M_5)) (Or.inr (Or.inl ⟨rfl, (dg dc202 19 rfl)⟩)) rfl rfl (rk1 (LOC.st (Nat.le_of_ble_eq_true rfl) rfl) rfl) rfl (fun _ r9 => mo_after_ok (Z := Z) (d := e9) (by omega) (by decide)  r9) hf (fun z_9 M_8 he_7 hf => ?_)
      exact mo_readHaving_J36_ok hd   v1 z_6 z_9 M_8 _ hf
    · refine ex_pu (ls' := [vR 165, vI v1, vI z_6, vU]) (st' := [vI (-1)]) (dg dc202 13 rfl) rfl rfl ?_
      refine ex_goto (t := 36) (dg dc202 14 rfl) rfl rfl ?_
      exact mo_readHaving_J36_ok hd   v1 z_6 (-1) M_5 _ hf
  · refine ex_pu (ls' := [vR 165, vI v1, vU, vU]) (st' := [vI 0]) (dg dc202 4 rfl) rfl rfl ?_
    exact ex_ire (dg dc202 5 rfl) rfl hf
-- GlassHillModel.readKeeper
def il203 : List (Nat × Instr × Nat) := [(0, .aload_n 0, 1), (1, .invokevirtual 147, 3), (4, .istore_n 1, 1), (5, .iload_n 1, 1), (6, .ifCond .lt 11, 3), (9, .aload_n 0, 1), (10, .iload_n 1, 1), (11, .invokevirtual 159, 3), (14, .ifCond .eq 5, 3), (17, .iconst 0, 1), (18, .ireturn, 1), (19, .aload_n 0, 1), (20, .ldc 163, 2), (22, .iconst 0, 1), (23, .bipush 15, 2), (25, .invokevirtual 137, 3), (28, .istore_n 2, 1), (29, .iload_n 2, 1), (30, .ifCond .ge 7, 3), (33, .iconst (-1), 1), (34, .goto 10, 3), (37, .aload_n 0, 1), (38, .iconst 0, 1), (39, .bipush 15, 2), (41, .invokevirtual 128, 3), (44, .istore_n 3, 1), (45, .iload_n 3, 1), (46, .ifCond .ge 5, 3), (49, .iconst 0, 1), (50, .ireturn, 1), (51, .aload_n 0, 1), (52, .iload_n 1, 1), (53, .iconst 0, 1), (54, .iconst 1, 1), (55, .invokevirtual 131, 3), (58, .aload_n 0, 1), (59, .iload_n 1, 1), (60, .iconst 1, 1), (61, .iload_n 2, 1), (62, .invokevirtual 131, 3), (65, .aload_n 0, 1), (66, .iload_n 1, 1), (67, .iconst 2, 1), (68, .iload_n 3, 1), (69, .invokevirtual 131, 3), (72, .aload_n 0, 1), (73, .ldc 165, 2), (75, .invokevirtual 154, 3), (78, .ifCond .eq 13, 3), (81, .aload_n 0, 1), (82, .iload_n 1, 1), (83, .invokevirtual 167, 3), (86, .ifCond .ne 5, 3), (89, .iconst 0, 1), (90, .ireturn, 1), (91, .aload_n 0, 1), (92, .iload_n 1, 1), (93, .iconst 5, 1), (94, .aload_n 0, 1), (95, .ldc 170, 2), (97, .invokevirtual 154, 3), (100, .ifCond .eq 7, 3), (103, .iconst 1, 1), (104, .goto 4, 3), (107, .iconst 0, 1), (108, .invokevirtual 131, 3), (111, .aload_n 0, 1), (112, .ldc 172, 2), (114, .invokevirtual 154, 3), (117, .ifCond .eq 11, 3), (120, .aload_n 0, 1), (121, .iload_n 1, 1), (122, .invokevirtual 174, 3), (125, .ifCond .eq 7, 3), (128, .iconst 1, 1), (129, .goto 4, 3), (132, .iconst 0, 1), (133, .ireturn, 1)]
theorem dc203 : dcs (mC 203) il203 := dc_of (by decide +kernel)
def mo_readKeeper_J91   (v1 : Int) (M : MM) : OR :=
  (bI (mo_passes 63 M) fun z_27 M_26 => (bif cmpB .eq z_27 0 then (bV (mo_sets v1 5 0 M_26) fun M_29 => (bI (mo_passes 64 M_29) fun z_33 M_32 => (bif cmpB .eq z_33 0 then some (rI 1, M_32) else (bI (mo_readHaving v1 M_32) fun z_36 M_35 => (bif cmpB .eq z_36 0 then some (rI 0, M_35) else some (rI 1, M_35)))))) else (bV (mo_sets v1 5 1 M_26) fun M_38 => (bI (mo_passes 64 M_38) fun z_42 M_41 => (bif cmpB .eq z_42 0 then some (rI 1, M_41) else (bI (mo_readHaving v1 M_41) fun z_45 M_44 => (bif cmpB .eq z_45 0 then some (rI 0, M_44) else some (rI 1, M_44))))))))
set_option maxRecDepth 4000 in
theorem mo_readKeeper_J91_ok {Z : Nat × (Nat → Int)} {d : Nat} (hd : 7 ≤ d)   {res : AR × MM}  : ∀ (v1 : Int) (M : MM) (j2 j3 : AV), mo_readKeeper_J91   v1 M = some res → EX Z d 203 91 [vR 165, vI v1, j2, j3] [] M res := by
  obtain ⟨e9, rfl⟩ : ∃ e9, d = e9 + 1 := ⟨d - 1, by omega⟩
  intro v1 M j2 j3 hf
  unfold mo_readKeeper_J91 at hf
  refine ex_pu (ls' := [vR 165, vI v1, j2, j3]) (st' := [vR 165]) (dg dc203 55 rfl) rfl rfl ?_
  refine ex_pu (ls' := [vR 165, vI v1, j2, j3]) (st' := [vI v1, vR 165]) (dg dc203 56 rfl) rfl rfl ?_
  refine ex_pu (ls' := [vR 165, vI v1, j2, j3]) (st' := [vI 5, vI v1, vR 165]) (dg dc203 57 rfl) rfl rfl ?_
  refine ex_pu (ls' := [vR 165, vI v1, j2, j3]) (st' := [vR 165, vI 5, vI v1, vR 165]) (dg dc203 58 rfl) rfl rfl ?_
  refine ex_ldcT (dg dc203 59 rfl) rfl ?_
  refine ex_cI (vs := [vR 165, vR (E0 + 2 + 2 * 63)]) (st' := [vI 5, vI v1, vR 165]) (F := (mo_passes 63 M)) (Or.inr (Or.inl ⟨rfl, (dg dc203 60 rfl)⟩)) rfl rfl (rk1 (LOC.st (Nat.le_of_ble_eq_true rfl) rfl) rfl) rfl (fun _ r9 => mo_passes_ok (Z := Z) (d := e9) (by omega) (by decide)  r9) hf (fun z_27 M_26 he_25 hf => ?_)
  refine ex_if (t := 107) (dg dc203 61 rfl) rfl hf (fun _ hf => ?_) (fun _ hf => ?_)
  · refine ex_pu (ls' := [vR 165, vI v1, j2, j3]) (st' := [vI 0, vI 5, vI v1, vR 165]) (dg dc203 64 rfl) rfl rfl ?_
    refine ex_cV (vs := [vR 165, vI v1, vI 5, vI 0]) (st' := []) (F := (mo_sets v1 5 0 M_26)) (Or.inr (Or.inl ⟨rfl, (dg dc203 65 rfl)⟩)) rfl rfl (rk1 (LOC.st (Nat.le_of_ble_eq_true rfl) rfl) rfl) rfl (fun _ r9 => mo_sets_ok (Z := Z) (d := e9) (by omega)  r9) hf (fun M_29 he_28 hf => ?_)
    refine ex_pu (ls' := [vR 165, vI v1, j2, j3]) (st' := [vR 165]) (dg dc203 66 rfl) rfl rfl ?_
    refine ex_ldcT (dg dc203 67 rfl) rfl ?_
    refine ex_cI (vs := [vR 165, vR (E0 + 2 + 2 * 64)]) (st' := []) (F := (mo_passes 64 M_29)) (Or.inr (Or.inl ⟨rfl, (dg dc203 68 rfl)⟩)) rfl rfl (rk1 (LOC.st (Nat.le_of_ble_eq_true rfl) rfl) rfl) rfl (fun _ r9 => mo_passes_ok (Z := Z) (d := e9) (by omega) (by decide)  r9) hf (fun z_33 M_32 he_31 hf => ?_)
    refine ex_if (t := 128) (dg dc203 69 rfl) rfl hf (fun _ hf => ?_) (fun _ hf => ?_)
    · refine ex_pu (ls' := [vR 165, vI v1, j2, j3]) (st' := [vI 1]) (dg dc203 74 rfl) rfl rfl ?_
      refine ex_goto (t := 133) (dg dc203 75 rfl) rfl rfl ?_
      exact ex_ire (dg dc203 77 rfl) rfl hf
    · refine ex_pu (ls' := [vR 165, vI v1, j2, j3]) (st' := [vR 165]) (dg dc203 70 rfl) rfl rfl ?_
      refine ex_pu (ls' := [vR 165, vI v1, j2, j3]) (st' := [vI v1, vR 165]) (dg dc203 71 rfl) rfl rfl ?_
      refine ex_cI (vs := [vR 165, vI v1]) (st' := []) (F := (mo_readHaving v1 M_32)) (Or.inr (Or.inl ⟨rfl, (dg dc203 72 rfl)⟩)) rfl rfl (rk1 (LOC.st (Nat.le_of_ble_eq_true rfl) rfl) rfl) rfl (fun _ r9 => mo_readHaving_ok (Z := Z) (d := e9) (by omega)  r9) hf (fun z_36 M_35 he_34 hf => ?_)
      refine ex_if (t := 132) (dg dc203 73 rfl) rfl hf (fun _ hf => ?_) (fun _ hf => ?_)
      · refine ex_pu (ls' := [vR 165, vI v1, j2, j3]) (st' := [vI 0]) (dg dc203 76 rfl) rfl rfl ?_
        exact ex_ire (dg dc203 77 rfl) rfl hf
      · refine ex_pu (ls' := [vR 165, vI v1, j2, j3]) (st' := [vI 1]) (dg dc203 74 rfl) rfl rfl ?_
        refine ex_goto (t := 133) (dg dc203 75 rfl) rfl rfl ?_
        exact ex_ire (dg dc203 77 rfl) rfl hf
  · refine ex_pu (ls' := [vR 165, vI v1, j2, j3]) (st' := [vI 1, vI 5, vI v1, vR 165]) (dg dc203 62 rfl) rfl rfl ?_
    refine ex_goto (t := 108) (dg dc203 63 rfl) rfl rfl ?_
    refine ex_cV (vs := [vR 165, vI v1, vI 5, vI 1]) (st' := []) (F := (mo_sets v1 5 1 M_26)) (Or.inr (Or.inl ⟨rfl, (dg dc203 65 rfl)⟩)) rfl rfl (rk1 (LOC.st (Nat.le_of_ble_eq_true rfl) rfl) rfl) rfl (fun _ r9 => mo_sets_ok (Z := Z) (d := e9) (by omega)  r9) hf (fun M_38 he_37 hf => ?_)
    refine ex_pu (ls' := [vR 165, vI v1, j2, j3]) (st' := [vR 165]) (dg dc203 66 rfl) rfl rfl ?_
    refine ex_ldcT (dg dc203 67 rfl) rfl ?_
    refine ex_cI (vs := [vR 165, vR (E0 + 2 + 2 * 64)]) (st' := []) (F := (mo_passes 64 M_38)) (Or.inr (Or.inl ⟨rfl, (dg dc203 68 rfl)⟩)) rfl rfl (rk1 (LOC.st (Nat.le_of_ble_eq_true rfl) rfl) rfl) rfl (fun _ r9 => mo_passes_ok (Z := Z) (d := e9) (by omega) (by decide)  r9) hf (fun z_42 M_41 he_40 hf => ?_)
    refine ex_if (t := 128) (dg dc203 69 rfl) rfl hf (fun _ hf => ?_) (fun _ hf => ?_)
    · refine ex_pu (ls' := [vR 165, vI v1, j2, j3]) (st' := [vI 1]) (dg dc203 74 rfl) rfl rfl ?_
      refine ex_goto (t := 133) (dg dc203 75 rfl) rfl rfl ?_
      exact ex_ire (dg dc203 77 rfl) rfl hf
    · refine ex_pu (ls' := [vR 165, vI v1, j2, j3]) (st' := [vR 165]) (dg dc203 70 rfl) rfl rfl ?_
      refine ex_pu (ls' := [vR 165, vI v1, j2, j3]) (st' := [vI v1, vR 165]) (dg dc203 71 rfl) rfl rfl ?_
      refine ex_cI (vs := [vR 165, vI v1]) (st' := []) (F := (mo_readHaving v1 M_41)) (Or.inr (Or.inl ⟨rfl, (dg dc203 72 rfl)⟩)) rfl rfl (rk1 (LOC.st (Nat.le_of_ble_eq_true rfl) rfl) rfl) rfl (fun _ r9 => mo_readHaving_ok (Z := Z) (d := e9) (by omega)  r9) hf (fun z_45 M_44 he_43 hf => ?_)
      refine ex_if (t := 132) (dg dc203 73 rfl) rfl hf (fun _ hf => ?_) (fun _ hf => ?_)
      · refine ex_pu (ls' := [vR 165, vI v1, j2, j3]) (st' := [vI 0]) (dg dc203 76 rfl) rfl rfl ?_
        exact ex_ire (dg dc203 77 rfl) rfl hf
      · refine ex_pu (ls' := [vR 165, vI v1, j2, j3]) (st' := [vI 1]) (dg dc203 74 rfl) rfl rfl ?_
        refine ex_goto (t := 133) (dg dc203 75 rfl) rfl rfl ?_
        exact ex_ire (dg dc203 77 rfl) rfl hf
def mo_readKeeper_J44   (v1 v2 s0 : Int) (M : MM) : OR :=
  (bif cmpB .ge s0 0 then (bV (mo_sets v1 0 1 M) fun M_14 => (bV (mo_sets v1 1 v2 M_14) fun M_17 => (bV (mo_sets v1 2 s0 M_17) fun M_20 => (bI (mo_passes 61 M_20) fun z_24 M_23 => (bif cmpB .eq z_24 0 then (mo_readKeeper_J91   v1 M_23) else (bI (mo_readEating v1 M_23) fun z_48 M_47 => (bif cmpB .ne z_48 0 then (mo_readKeeper_J91   v1 M_47) else some (rI 0, M_47)))))))) else some (rI 0, M))
set_option maxRecDepth 4000 in
theorem mo_readKeeper_J44_ok {Z : Nat × (Nat → Int)} {d : Nat} (hd : 7 ≤ d)   {res : AR × MM}  : ∀ (v1 v2 s0 : Int) (M : MM) (j3 : AV), mo_readKeeper_J44   v1 v2 s0 M = some res → EX Z d 203 44 [vR 165, vI v1, vI v2, j3] [vI s0] M res := by
  obtain ⟨e9, rfl⟩ : ∃ e9, d = e9 + 1 := ⟨d - 1, by omega⟩
  intro v1 v2 s0 M j3 hf
  unfold mo_readKeeper_J44 at hf
  refine ex_pu (ls' := [vR 165, vI v1, vI v2, vI s0]) (st' := []) (dg dc203 25 rfl) rfl rfl ?_
  refine ex_pu (ls' := [vR 165, vI v1, vI v2, vI s0]) (st' := [vI s0]) (dg dc203 26 rfl) rfl rfl ?_
  refine ex_if (t := 51) (dg dc203 27 rfl) rfl hf (fun _ hf => ?_) (fun _ hf => ?_)
  · refine ex_pu (ls' := [vR 165, vI v1, vI v2, vI s0]) (st' := [vR 165]) (dg dc203 30 rfl) rfl rfl ?_
    refine ex_pu (ls' := [vR 165, vI v1, vI v2, vI s0]) (st' := [vI v1, vR 165]) (dg dc203 31 rfl) rfl rfl ?_
    refine ex_pu (ls' := [vR 165, vI v1, vI v2, vI s0]) (st' := [vI 0, vI v1, vR 165]) (dg dc203 32 rfl) rfl rfl ?_
    refine ex_pu (ls' := [vR 165, vI v1, vI v2, vI s0]) (st' := [vI 1, vI 0, vI v1, vR 165]) (dg dc203 33 rfl) rfl rfl ?_
    refine ex_cV (vs := [vR 165, vI v1, vI 0, vI 1]) (st' := []) (F := (mo_sets v1 0 1 M)) (Or.inr (Or.inl ⟨rfl, (dg dc203 34 rfl)⟩)) rfl rfl (rk1 (LOC.st (Nat.le_of_ble_eq_true rfl) rfl) rfl) rfl (fun _ r9 => mo_sets_ok (Z := Z) (d := e9) (by omega)  r9) hf (fun M_14 he_13 hf => ?_)
    refine ex_pu (ls' := [vR 165, vI v1, vI v2, vI s0]) (st' := [vR 165]) (dg dc203 35 rfl) rfl rfl ?_
    refine ex_pu (ls' := [vR 165, vI v1, vI v2, vI s0]) (st' := [vI v1, vR 165]) (dg dc203 36 rfl) rfl rfl ?_
    refine ex_pu (ls' := [vR 165, vI v1, vI v2, vI s0]) (st' := [vI 1, vI v1, vR 165]) (dg dc203 37 rfl) rfl rfl ?_
    refine ex_pu (ls' := [vR 165, vI v1, vI v2, vI s0]) (st' := [vI v2, vI 1, vI v1, vR 165]) (dg dc203 38 rfl) rfl rfl ?_
    refine ex_cV (vs := [vR 165, vI v1, vI 1, vI v2]) (st' := []) (F := (mo_sets v1 1 v2 M_14)) (Or.inr (Or.inl ⟨rfl, (dg dc203 39 rfl)⟩)) rfl rfl (rk1 (LOC.st (Nat.le_of_ble_eq_true rfl) rfl) rfl) rfl (fun _ r9 => mo_sets_ok (Z := Z) (d := e9) (by omega)  r9) hf (fun M_17 he_16 hf => ?_)
    refine ex_pu (ls' := [vR 165, vI v1, vI v2, vI s0]) (st' := [vR 165]) (dg dc203 40 rfl) rfl rfl ?_
    refine ex_pu (ls' := [vR 165, vI v1, vI v2, vI s0]) (st' := [vI v1, vR 165]) (dg dc203 41 rfl) rfl rfl ?_
    refine ex_pu (ls' := [vR 165, vI v1, vI v2, vI s0]) (st' := [vI 2, vI v1, vR 165]) (dg dc203 42 rfl) rfl rfl ?_
    refine ex_pu (ls' := [vR 165, vI v1, vI v2, vI s0]) (st' := [vI s0, vI 2, vI v1, vR 165]) (dg dc203 43 rfl) rfl rfl ?_
    refine ex_cV (vs := [vR 165, vI v1, vI 2, vI s0]) (st' := []) (F := (mo_sets v1 2 s0 M_17)) (Or.inr (Or.inl ⟨rfl, (dg dc203 44 rfl)⟩)) rfl rfl (rk1 (LOC.st (Nat.le_of_ble_eq_true rfl) rfl) rfl) rfl (fun _ r9 => mo_sets_ok (Z := Z) (d := e9) (by omega)  r9) hf (fun M_20 he_19 hf => ?_)
    refine ex_pu (ls' := [vR 165, vI v1, vI v2, vI s0]) (st' := [vR 165]) (dg dc203 45 rfl) rfl rfl ?_
    refine ex_ldcT (dg dc203 46 rfl) rfl ?_
    refine ex_cI (vs := [vR 165, vR (E0 + 2 + 2 * 61)]) (st' := []) (F := (mo_passes 61 M_20)) (Or.inr (Or.inl ⟨rfl, (dg dc203 47 rfl)⟩)) rfl rfl (rk1 (LOC.st (Nat.le_of_ble_eq_true rfl) rfl) rfl) rfl (fun _ r9 => mo_passes_ok (Z := Z) (d := e9) (by omega) (by decide)  r9) hf (fun z_24 M_23 he_22 hf => ?_)
    refine ex_if (t := 91) (dg dc203 48 rfl) rfl hf (fun _ hf => ?_) (fun _ hf => ?_)
    · exact mo_readKeeper_J91_ok hd   v1 M_23 _ _ hf
    · refine ex_pu (ls' := [vR 165, vI v1, vI v2, vI s0]) (st' := [vR 165]) (dg dc203 49 rfl) rfl rfl ?_
      refine ex_pu (ls' := [vR 165, vI v1, vI v2, vI s0]) (st' := [vI v1, vR 165]) (dg dc203 50 rfl) rfl rfl ?_
      refine ex_cI (vs := [vR 165, vI v1]) (st' := []) (F := (mo_readEating v1 M_23)) (Or.inr (Or.inl ⟨rfl, (dg dc203 51 rfl)⟩)) rfl rfl (rk1 (LOC.st (Nat.le_of_ble_eq_true rfl) rfl) rfl) rfl (fun _ r9 => mo_readEating_ok (Z := Z) (d := e9) (by omega)  r9) hf (fun z_48 M_47 he_46 hf => ?_)
      refine ex_if (t := 91) (dg dc203 52 rfl) rfl hf (fun _ hf => ?_) (fun _ hf => ?_)
      · exact mo_readKeeper_J91_ok hd   v1 M_47 _ _ hf
      · refine ex_pu (ls' := [vR 165, vI v1, vI v2, vI s0]) (st' := [vI 0]) (dg dc203 53 rfl) rfl rfl ?_
        exact ex_ire (dg dc203 54 rfl) rfl hf
  · refine ex_pu (ls' := [vR 165, vI v1, vI v2, vI s0]) (st' := [vI 0]) (dg dc203 28 rfl) rfl rfl ?_
    exact ex_ire (dg dc203 29 rfl) rfl hf
def mo_readKeeper  (M : MM) : OR :=
  (bI (mo_placeTold  M) fun z_3 M_2 => (bif cmpB .lt z_3 0 then some (rI 0, M_2) else (bI (mo_isKeeper z_3 M_2) fun z_6 M_5 => (bif cmpB .eq z_6 0 then (bI (mo_after 60 0 15 M_5) fun z_9 M_8 => (bif cmpB .ge z_9 0 then (bI (mo_number 0 15 M_8) fun z_12 M_11 => (mo_readKeeper_J44   z_3 z_9 z_12 M_11)) else (mo_readKeeper_J44   z_3 z_9 (-1) M_8))) else some (rI 0, M_5)))))
set_option maxRecDepth 4000 in
theorem mo_readKeeper_ok {Z : Nat × (Nat → Int)} {d : Nat} (hd : 7 ≤ d) {M : MM}  {res : AR × MM} (hf : mo_readKeeper  M = some res) : EX Z d 203 0 (ent 203 [vR 165]) [] M res := by
  obtain ⟨e9, rfl⟩ : ∃ e9, d = e9 + 1 := ⟨d - 1, by omega⟩
  unfold mo_readKeeper at hf
  show EX Z _ 203 0 [vR 165, vU, vU, vU] [] M res
  refine ex_pu (ls' := [vR 165, vU, vU, vU]) (st' := [vR 165]) (dg dc203 0 rfl) rfl rfl ?_
  refine ex_cI (vs := [vR 165]) (st' := []) (F := (mo_placeTold  M)) (Or.inr (Or.inl ⟨rfl, (dg dc203 1 rfl)⟩)) rfl rfl (rk1 (LOC.st (Nat.le_of_ble_eq_true rfl) rfl) rfl) rfl (fun _ r9 => mo_placeTold_ok (Z := Z) (d := e9) (by omega)  r9) hf (fun z_3 M_2 he_1 hf => ?_)
  refine ex_pu (ls' := [vR 165, vI z_3, vU, vU]) (st' := []) (dg dc203 2 rfl) rfl rfl ?_
  refine ex_pu (ls' := [vR 165, vI z_3, vU, vU]) (st' := [vI z_3]) (dg dc203 3 rfl) rfl rfl ?_
  refine ex_if (t := 17) (dg dc203 4 rfl) rfl hf (fun _ hf => ?_) (fun _ hf => ?_)
  · refine ex_pu (ls' := [vR 165, vI z_3, vU, vU]) (st' := [vI 0]) (dg dc203 9 rfl) rfl rfl ?_
    exact ex_ire (dg dc203 10 rfl) rfl hf
  · refine ex_pu (ls' := [vR 165, vI z_3, vU, vU]) (st' := [vR 165]) (dg dc203 5 rfl) rfl rfl ?_
    refine ex_pu (ls' := [vR 165, vI z_3, vU, vU]) (st' := [vI z_3, vR 165]) (dg dc203 6 rfl) rfl rfl ?_
    refine ex_cI (vs := [vR 165, vI z_3]) (st' := []) (F := (mo_isKeeper z_3 M_2)) (Or.inr (Or.inl ⟨rfl, (dg dc203 7 rfl)⟩)) rfl rfl (rk1 (LOC.st (Nat.le_of_ble_eq_true rfl) rfl) rfl) rfl (fun _ r9 => mo_isKeeper_ok (Z := Z) (d := e9) (by omega)  r9) hf (fun z_6 M_5 he_4 hf => ?_)
    refine ex_if (t := 19) (dg dc203 8 rfl) rfl hf (fun _ hf => ?_) (fun _ hf => ?_)
    · refine ex_pu (ls' := [vR 165, vI z_3, vU, vU]) (st' := [vR 165]) (dg dc203 11 rfl) rfl rfl ?_
      refine ex_ldcT (dg dc203 12 rfl) rfl ?_
      refine ex_pu (ls' := [vR 165, vI z_3, vU, vU]) (st' := [vI 0, vR (E0 + 2 + 2 * 60), vR 165]) (dg dc203 13 rfl) rfl rfl ?_
      refine ex_pu (ls' := [vR 165, vI z_3, vU, vU]) (st' := [vI 15, vI 0, vR (E0 + 2 + 2 * 60), vR 165]) (dg dc203 14 rfl) rfl rfl ?_
      refine ex_cI (vs := [vR 165, vR (E0 + 2 + 2 * 60), vI 0, vI 15]) (st' := []) (F := (mo_after 60 0 15 M_5)) (Or.inr (Or.inl ⟨rfl, (dg dc203 15 rfl)⟩)) rfl rfl (rk1 (LOC.st (Nat.le_of_ble_eq_true rfl) rfl) rfl) rfl (fun _ r9 => mo_after_ok (Z := Z) (d := e9) (by omega) (by decide)  r9) hf (fun z_9 M_8 he_7 hf => ?_)
      refine ex_pu (ls' := [vR 165, vI z_3, vI z_9, vU]) (st' := []) (dg dc203 16 rfl) rfl rfl ?_
      refine ex_pu (ls' := [vR 165, vI z_3, vI z_9, vU]) (st' := [vI z_9]) (dg dc203 17 rfl) rfl rfl ?_
      refine ex_if (t := 37) (dg dc203 18 rfl) rfl hf (fun _ hf => ?_) (fun _ hf => ?_)
      · refine ex_pu (ls' := [vR 165, vI z_3, vI z_9, vU]) (st' := [vR 165]) (dg dc203 21 rfl) rfl rfl ?_
        refine ex_pu (ls' := [vR 165, vI z_3, vI z_9, vU]) (st' := [vI 0, vR 165]) (dg dc203 22 rfl) rfl rfl ?_
        refine ex_pu (ls' := [vR 165, vI z_3, vI z_9, vU]) (st' := [vI 15, vI 0, vR 165]) (dg dc203 23 rfl) rfl rfl ?_
        refine ex_cI (vs := [vR 165, vI 0, vI 15]) (st' := []) (F := (mo_number 0 15 M_8)) (Or.inr (Or.inl ⟨rfl, (dg dc203 24 rfl)⟩)) rfl rfl (rk1 (LOC.st (Nat.le_of_ble_eq_true rfl) rfl) rfl) rfl (fun _ r9 => mo_number_ok (Z := Z) (d := e9) (by omega)  r9) hf (fun z_12 M_11 he_10 hf => ?_)
        exact mo_readKeeper_J44_ok hd   z_3 z_9 z_12 M_11 _ hf
      · refine ex_pu (ls' := [vR 165, vI z_3, vI z_9, vU]) (st' := [vI (-1)]) (dg dc203 19 rfl) rfl rfl ?_
        refine ex_goto (t := 44) (dg dc203 20 rfl) rfl rfl ?_
        exact mo_readKeeper_J44_ok hd   z_3 z_9 (-1) M_8 _ hf
    · refine ex_pu (ls' := [vR 165, vI z_3, vU, vU]) (st' := [vI 0]) (dg dc203 9 rfl) rfl rfl ?_
      exact ex_ire (dg dc203 10 rfl) rfl hf
-- GlassHillModel.readBrother
def il204 : List (Nat × Instr × Nat) := [(0, .sipush 194, 3), (3, .bipush 6, 2), (5, .aload_n 0, 1), (6, .invokevirtual 90, 3), (9, .imul, 1), (10, .iadd, 1), (11, .istore_n 1, 1), (12, .aload_n 0, 1), (13, .invokevirtual 90, 3), (16, .bipush 7, 2), (18, .if_icmp .ne 5, 3), (21, .iconst 0, 1), (22, .ireturn, 1), (23, .aload_n 0, 1), (24, .invokevirtual 147, 3), (27, .istore_n 2, 1), (28, .iload_n 2, 1), (29, .ifCond .ge 7, 3), (32, .iconst (-1), 1), (33, .goto 12, 3), (36, .aload_n 0, 1), (37, .ldc 163, 2), (39, .iconst 0, 1), (40, .bipush 15, 2), (42, .invokevirtual 137, 3), (45, .istore_n 3, 1), (46, .iload_n 3, 1), (47, .ifCond .ge 7, 3), (50, .iconst (-1), 1), (51, .goto 10, 3), (54, .aload_n 0, 1), (55, .iconst 0, 1), (56, .bipush 15, 2), (58, .invokevirtual 128, 3), (61, .istore 4, 2), (63, .iload 4, 2), (65, .ifCond .ge 7, 3), (68, .iconst (-1), 1), (69, .goto 12, 3), (72, .aload_n 0, 1), (73, .ldc 177, 2), (75, .iconst 0, 1), (76, .bipush 99, 2), (78, .invokevirtual 137, 3), (81, .istore 5, 2), (83, .iload 5, 2), (85, .ifCond .ge 7, 3), (88, .iconst (-1), 1), (89, .goto 13, 3), (92, .aload_n 0, 1), (93, .ldc 179, 2), (95, .iconst 0, 1), (96, .sipush 999, 3), (99, .invokevirtual 137, 3), (102, .istore 6, 2), (104, .iload 6, 2), (106, .ifCond .ge 5, 3), (109, .iconst 0, 1), (110, .ireturn, 1), (111, .aload_n 0, 1), (112, .getfield 13, 3), (115, .iload_n 1, 1), (116, .iload_n 2, 1), (117, .iastore, 1), (118, .aload_n 0, 1), (119, .getfield 13, 3), (122, .iload_n 1, 1), (123, .iconst 1, 1), (124, .iadd, 1), (125, .iload_n 3, 1), (126, .iastore, 1), (127, .aload_n 0, 1), (128, .getfield 13, 3), (131, .iload_n 1, 1), (132, .iconst 2, 1), (133, .iadd, 1), (134, .iload 4, 2), (136, .iastore, 1), (137, .aload_n 0, 1), (138, .getfield 13, 3), (141, .iload_n 1, 1), (142, .iconst 3, 1), (143, .iadd, 1), (144, .iload 5, 2), (146, .iastore, 1), (147, .aload_n 0, 1), (148, .getfield 13, 3), (151, .iload_n 1, 1), (152, .iconst 4, 1), (153, .iadd, 1), (154, .iload 6, 2), (156, .iastore, 1), (157, .aload_n 0, 1), (158, .getfield 13, 3), (161, .iload_n 1, 1), (162, .iconst 5, 1), (163, .iadd, 1), (164, .iconst (-1), 1), (165, .iastore, 1), (166, .aload_n 0, 1), (167, .getfield 13, 3), (170, .iconst 3, 1), (171, .dup2, 1), (172, .iaload, 1), (173, .iconst 1, 1), (174, .iadd, 1), (175, .iastore, 1), (176, .iconst 1, 1), (177, .ireturn, 1)]
theorem dc204 : dcs (mC 204) il204 := dc_of (by decide +kernel)
def mo_readBrother_J102   (v1 v2 v3 v4 v5 s0 : Int) (M : MM) : OR :=
  (bif cmpB .ge s0 0 then (bif inB v1 1964 then (sM (mU M 166 (v1).toNat v2) fun M_22 => (bif inB (v1 + 1) 1964 then (sM (mU M_22 166 ((v1 + 1)).toNat v3) fun M_24 => (bif inB (v1 + 2) 1964 then (sM (mU M_24 166 ((v1 + 2)).toNat v4) fun M_26 => (bif inB (v1 + 3) 1964 then (sM (mU M_26 166 ((v1 + 3)).toNat v5) fun M_28 => (bif inB (v1 + 4) 1964 then (sM (mU M_28 166 ((v1 + 4)).toNat s0) fun M_30 => (bif inB (v1 + 5) 1964 then (sM (mU M_30 166 ((v1 + 5)).toNat (-1)) fun M_32 => (bif inB 3 1964 then (bif inB 3 1964 then (sM (mU M_32 166 3 ((M_32 166 3) + 1)) fun M_34 => some (rI 1, M_34)) else none) else none)) else none)) else none)) else none)) else none)) else none)) else none) else some (rI 0, M))
set_option maxRecDepth 4000 in
theorem mo_readBrother_J102_ok {Z : Nat × (Nat → Int)} {d : Nat} (hd : 6 ≤ d)   {res : AR × MM}  : ∀ (v1 v2 v3 v4 v5 s0 : Int) (M : MM) (j6 : AV), mo_readBrother_J102   v1 v2 v3 v4 v5 s0 M = some res → EX Z d 204 102 [vR 165, vI v1, vI v2, vI v3, vI v4, vI v5, j6] [vI s0] M res := by
  obtain ⟨e9, rfl⟩ : ∃ e9, d = e9 + 1 := ⟨d - 1, by omega⟩
  intro v1 v2 v3 v4 v5 s0 M j6 hf
  unfold mo_readBrother_J102 at hf
  refine ex_pu (ls' := [vR 165, vI v1, vI v2, vI v3, vI v4, vI v5, vI s0]) (st' := []) (dg dc204 54 rfl) rfl rfl ?_
  refine ex_pu (ls' := [vR 165, vI v1, vI v2, vI v3, vI v4, vI v5, vI s0]) (st' := [vI s0]) (dg dc204 55 rfl) rfl rfl ?_
  refine ex_if (t := 111) (dg dc204 56 rfl) rfl hf (fun _ hf => ?_) (fun _ hf => ?_)
  · refine ex_pu (ls' := [vR 165, vI v1, vI v2, vI v3, vI v4, vI v5, vI s0]) (st' := [vR 165]) (dg dc204 59 rfl) rfl rfl ?_
    refine ex_getO (dg dc204 60 rfl) rfl (LOC.st (Nat.le_of_ble_eq_true rfl) rfl) rfl ?_
    show EX Z _ 204 _ [vR 165, vI v1, vI v2, vI v3, vI v4, vI v5, vI s0] [vR 166] _ _
    refine ex_pu (ls' := [vR 165, vI v1, vI v2, vI v3, vI v4, vI v5, vI s0]) (st' := [vI v1, vR 166]) (dg dc204 61 rfl) rfl rfl ?_
    refine ex_pu (ls' := [vR 165, vI v1, vI v2, vI v3, vI v4, vI v5, vI s0]) (st' := [vI v2, vI v1, vR 166]) (dg dc204 62 rfl) rfl rfl ?_
    refine ex_iast (dg dc204 63 rfl) (LOC.st (Nat.le_of_ble_eq_true rfl) rfl) rfl rfl hf (fun _ hf => ?_)
    refine ex_gen hf (fun M_22 hM_23 hf => ?_)
    refine ex_pu (ls' := [vR 165, vI v1, vI v2, vI v3, vI v4, vI v5, vI s0]) (st' := [vR 165]) (dg dc204 64 rfl) rfl rfl ?_
    refine ex_getO (dg dc204 65 rfl) rfl (LOC.st (Nat.le_of_ble_eq_true rfl) rfl) rfl ?_
    show EX Z _ 204 _ [vR 165, vI v1, vI v2, vI v3, vI v4, vI v5, vI s0] [vR 166] _ _
    refine ex_pu (ls' := [vR 165, vI v1, vI v2, vI v3, vI v4, vI v5, vI s0]) (st' := [vI v1, vR 166]) (dg dc204 66 rfl) rfl rfl ?_
    refine ex_pu (ls' := [vR 165, vI v1, vI v2, vI v3, vI v4, vI v5, vI s0]) (st' := [vI 1, vI v1, vR 166]) (dg dc204 67 rfl) rfl rfl ?_
    refine ex_pu (ls' := [vR 165, vI v1, vI v2, vI v3, vI v4, vI v5, vI s0]) (st' := [vI (v1 + 1), vR 166]) (dg dc204 68 rfl) rfl rfl ?_
    refine ex_pu (ls' := [vR 165, vI v1, vI v2, vI v3, vI v4, vI v5, vI s0]) (st' := [vI v3, vI (v1 + 1), vR 166]) (dg dc204 69 rfl) rfl rfl ?_
    refine ex_iast (dg dc204 70 rfl) (LOC.st (Nat.le_of_ble_eq_true rfl) rfl) rfl rfl hf (fun _ hf => ?_)
    refine ex_gen hf (fun M_24 hM_25 hf => ?_)
    refine ex_pu (ls' := [vR 165, vI v1, vI v2, vI v3, vI v4, vI v5, vI s0]) (st' := [vR 165]) (dg dc204 71 rfl) rfl rfl ?_
    refine ex_getO (dg dc204 72 rfl) rfl (LOC.st (Nat.le_of_ble_eq_true rfl) rfl) rfl ?_
    show EX Z _ 204 _ [vR 165, vI v1, vI v2, vI v3, vI v4, vI v5, vI s0] [vR 166] _ _
    refine ex_pu (ls' := [vR 165, vI v1, vI v2, vI v3, vI v4, vI v5, vI s0]) (st' := [vI v1, vR 166]) (dg dc204 73 rfl) rfl rfl ?_
    refine ex_pu (ls' := [vR 165, vI v1, vI v2, vI v3, vI v4, vI v5, vI s0]) (st' := [vI 2, vI v1, vR 166]) (dg dc204 74 rfl) rfl rfl ?_
    refine ex_pu (ls' := [vR 165, vI v1, vI v2, vI v3, vI v4, vI v5, vI s0]) (st' := [vI (v1 + 2), vR 166]) (dg dc204 75 rfl) rfl rfl ?_
    refine ex_pu (ls' := [vR 165, vI v1, vI v2, vI v3, vI v4, vI v5, vI s0]) (st' := [vI v4, vI (v1 + 2), vR 166]) (dg dc204 76 rfl) rfl rfl ?_
    refine ex_iast (dg dc204 77 rfl) (LOC.st (Nat.le_of_ble_eq_true rfl) rfl) rfl rfl hf (fun _ hf => ?_)
    refine ex_gen hf (fun M_26 hM_27 hf => ?_)
    refine ex_pu (ls' := [vR 165, vI v1, vI v2, vI v3, vI v4, vI v5, vI s0]) (st' := [vR 165]) (dg dc204 78 rfl) rfl rfl ?_
    refine ex_getO (dg dc204 79 rfl) rfl (LOC.st (Nat.le_of_ble_eq_true rfl) rfl) rfl ?_
    show EX Z _ 204 _ [vR 165, vI v1, vI v2, vI v3, vI v4, vI v5, vI s0] [vR 166] _ _
    refine ex_pu (ls' := [vR 165, vI v1, vI v2, vI v3, vI v4, vI v5, vI s0]) (st' := [vI v1, vR 166]) (dg dc204 80 rfl) rfl rfl ?_
    refine ex_pu (ls' := [vR 165, vI v1, vI v2, vI v3, vI v4, vI v5, vI s0]) (st' := [vI 3, vI v1, vR 166]) (dg dc204 81 rfl) rfl rfl ?_
    refine ex_pu (ls' := [vR 165, vI v1, vI v2, vI v3, vI v4, vI v5, vI s0]) (st' := [vI (v1 + 3), vR 166]) (dg dc204 82 rfl) rfl rfl ?_
    refine ex_pu (ls' := [vR 165, vI v1, vI v2, vI v3, vI v4, vI v5, vI s0]) (st' := [vI v5, vI (v1 + 3), vR 166]) (dg dc204 83 rfl) rfl rfl ?_
    refine ex_iast (dg dc204 84 rfl) (LOC.st (Nat.le_of_ble_eq_true rfl) rfl) rfl rfl hf (fun _ hf => ?_)
    refine ex_gen hf (fun M_28 hM_29 hf => ?_)
    refine ex_pu (ls' := [vR 165, vI v1, vI v2, vI v3, vI v4, vI v5, vI s0]) (st' := [vR 165]) (dg dc204 85 rfl) rfl rfl ?_
    refine ex_getO (dg dc204 86 rfl) rfl (LOC.st (Nat.le_of_ble_eq_true rfl) rfl) rfl ?_
    show EX Z _ 204 _ [vR 165, vI v1, vI v2, vI v3, vI v4, vI v5, vI s0] [vR 166] _ _
    refine ex_pu (ls' := [vR 165, vI v1, vI v2, vI v3, vI v4, vI v5, vI s0]) (st' := [vI v1, vR 166]) (dg dc204 87 rfl) rfl rfl ?_
    refine ex_pu (ls' := [vR 165, vI v1, vI v2, vI v3, vI v4, vI v5, vI s0]) (st' := [vI 4, vI v1, vR 166]) (dg dc204 88 rfl) rfl rfl ?_
    refine ex_pu (ls' := [vR 165, vI v1, vI v2, vI v3, vI v4, vI v5, vI s0]) (st' := [vI (v1 + 4), vR 166]) (dg dc204 89 rfl) rfl rfl ?_
    refine ex_pu (ls' := [vR 165, vI v1, vI v2, vI v3, vI v4, vI v5, vI s0]) (st' := [vI s0, vI (v1 + 4), vR 166]) (dg dc204 90 rfl) rfl rfl ?_
    refine ex_iast (dg dc204 91 rfl) (LOC.st (Nat.le_of_ble_eq_true rfl) rfl) rfl rfl hf (fun _ hf => ?_)
    refine ex_gen hf (fun M_30 hM_31 hf => ?_)
    refine ex_pu (ls' := [vR 165, vI v1, vI v2, vI v3, vI v4, vI v5, vI s0]) (st' := [vR 165]) (dg dc204 92 rfl) rfl rfl ?_
    refine ex_getO (dg dc204 93 rfl) rfl (LOC.st (Nat.le_of_ble_eq_true rfl) rfl) rfl ?_
    show EX Z _ 204 _ [vR 165, vI v1, vI v2, vI v3, vI v4, vI v5, vI s0] [vR 166] _ _
    refine ex_pu (ls' := [vR 165, vI v1, vI v2, vI v3, vI v4, vI v5, vI s0]) (st' := [vI v1, vR 166]) (dg dc204 94 rfl) rfl rfl ?_
    refine ex_pu (ls' := [vR 165, vI v1, vI v2, vI v3, vI v4, vI v5, vI s0]) (st' := [vI 5, vI v1, vR 166]) (dg dc204 95 rfl) rfl rfl ?_
    refine ex_pu (ls' := [vR 165, vI v1, vI v2, vI v3, vI v4, vI v5, vI s0]) (st' := [vI (v1 + 5), vR 166]) (dg dc204 96 rfl) rfl rfl ?_
    refine ex_pu (ls' := [vR 165, vI v1, vI v2, vI v3, vI v4, vI v5, vI s0]) (st' := [vI (-1), vI (v1 + 5), vR 166]) (dg dc204 97 rfl) rfl rfl ?_
    refine ex_iast (dg dc204 98 rfl) (LOC.st (Nat.le_of_ble_eq_true rfl) rfl) rfl rfl hf (fun _ hf => ?_)
    refine ex_gen hf (fun M_32 hM_33 hf => ?_)
    refine ex_pu (ls' := [vR 165, vI v1, vI v2, vI v3, vI v4, vI v5, vI s0]) (st' := [vR 165]) (dg dc204 99 rfl) rfl rfl ?_
    refine ex_getO (dg dc204 100 rfl) rfl (LOC.st (Nat.le_of_ble_eq_true rfl) rfl) rfl ?_
    show EX Z _ 204 _ [vR 165, vI v1, vI v2, vI v3, vI v4, vI v5, vI s0] [vR 166] _ _
    refine ex_pu (ls' := [vR 165, vI v1, vI v2, vI v3, vI v4, vI v5, vI s0]) (st' := [vI 3, vR 166]) (dg dc204 101 rfl) rfl rfl ?_
    refine ex_pu (ls' := [vR 165, vI v1, vI v2, vI v3, vI v4, vI v5, vI s0]) (st' := [vI 3, vR 166, vI 3, vR 166]) (dg dc204 102 rfl) rfl rfl ?_
    refine ex_iald (dg dc204 103 rfl) (LOC.st (Nat.le_of_ble_eq_true rfl) rfl) rfl hf (fun _ hf => ?_)
    refine ex_pu (ls' := [vR 165, vI v1, vI v2, vI v3, vI v4, vI v5, vI s0]) (st' := [vI 1, vI (M_32 166 3), vI 3, vR 166]) (dg dc204 104 rfl) rfl rfl ?_
    refine ex_pu (ls' := [vR 165, vI v1, vI v2, vI v3, vI v4, vI v5, vI s0]) (st' := [vI ((M_32 166 3) + 1), vI 3, vR 166]) (dg dc204 105 rfl) rfl rfl ?_
    refine ex_iast (dg dc204 106 rfl) (LOC.st (Nat.le_of_ble_eq_true rfl) rfl) rfl rfl hf (fun _ hf => ?_)
    refine ex_gen hf (fun M_34 hM_35 hf => ?_)
    refine ex_pu (ls' := [vR 165, vI v1, vI v2, vI v3, vI v4, vI v5, vI s0]) (st' := [vI 1]) (dg dc204 107 rfl) rfl rfl ?_
    exact ex_ire (dg dc204 108 rfl) rfl hf
  · refine ex_pu (ls' := [vR 165, vI v1, vI v2, vI v3, vI v4, vI v5, vI s0]) (st' := [vI 0]) (dg dc204 57 rfl) rfl rfl ?_
    exact ex_ire (dg dc204 58 rfl) rfl hf
def mo_readBrother_J81   (v1 v2 v3 v4 s0 : Int) (M : MM) : OR :=
  (bif cmpB .ge s0 0 then (bI (mo_after 67 0 999 M) fun z_21 M_20 => (mo_readBrother_J102   v1 v2 v3 v4 s0 z_21 M_20)) else (mo_readBrother_J102   v1 v2 v3 v4 s0 (-1) M))
set_option maxRecDepth 4000 in
theorem mo_readBrother_J81_ok {Z : Nat × (Nat → Int)} {d : Nat} (hd : 6 ≤ d)   {res : AR × MM}  : ∀ (v1 v2 v3 v4 s0 : Int) (M : MM) (j5 j6 : AV), mo_readBrother_J81   v1 v2 v3 v4 s0 M = some res → EX Z d 204 81 [vR 165, vI v1, vI v2, vI v3, vI v4, j5, j6] [vI s0] M res := by
  obtain ⟨e9, rfl⟩ : ∃ e9, d = e9 + 1 := ⟨d - 1, by omega⟩
  intro v1 v2 v3 v4 s0 M j5 j6 hf
  unfold mo_readBrother_J81 at hf
  refine ex_pu (ls' := [vR 165, vI v1, vI v2, vI v3, vI v4, vI s0, j6]) (st' := []) (dg dc204 44 rfl) rfl rfl ?_
  refine ex_pu (ls' := [vR 165, vI v1, vI v2, vI v3, vI v4, vI s0, j6]) (st' := [vI s0]) (dg dc204 45 rfl) rfl rfl ?_
  refine ex_if (t := 92) (dg dc204 46 rfl) rfl hf (fun _ hf => ?_) (fun _ hf => ?_)
  · refine ex_pu (ls' := [vR 165, vI v1, vI v2, vI v3, vI v4, vI s0, j6]) (st' := [vR 165]) (dg dc204 49 rfl) rfl rfl ?_
    refine ex_ldcT (dg dc204 50 rfl) rfl ?_
    refine ex_pu (ls' := [vR 165, vI v1, vI v2, vI v3, vI v4, vI s0, j6]) (st' := [vI 0, vR (E0 + 2 + 2 * 67), vR 165]) (dg dc204 51 rfl) rfl rfl ?_
    refine ex_pu (ls' := [vR 165, vI v1, vI v2, vI v3, vI v4, vI s0, j6]) (st' := [vI 999, vI 0, vR (E0 + 2 + 2 * 67), vR 165]) (dg dc204 52 rfl) rfl rfl ?_
    refine ex_cI (vs := [vR 165, vR (E0 + 2 + 2 * 67), vI 0, vI 999]) (st' := []) (F := (mo_after 67 0 999 M)) (Or.inr (Or.inl ⟨rfl, (dg dc204 53 rfl)⟩)) rfl rfl (rk1 (LOC.st (Nat.le_of_ble_eq_true rfl) rfl) rfl) rfl (fun _ r9 => mo_after_ok (Z := Z) (d := e9) (by omega) (by decide)  r9) hf (fun z_21 M_20 he_19 hf => ?_)
    exact mo_readBrother_J102_ok hd   v1 v2 v3 v4 s0 z_21 M_20 _ hf
  · refine ex_pu (ls' := [vR 165, vI v1, vI v2, vI v3, vI v4, vI s0, j6]) (st' := [vI (-1)]) (dg dc204 47 rfl) rfl rfl ?_
    refine ex_goto (t := 102) (dg dc204 48 rfl) rfl rfl ?_
    exact mo_readBrother_J102_ok hd   v1 v2 v3 v4 s0 (-1) M _ hf
def mo_readBrother_J61   (v1 v2 v3 s0 : Int) (M : MM) : OR :=
  (bif cmpB .ge s0 0 then (bI (mo_after 66 0 99 M) fun z_18 M_17 => (mo_readBrother_J81   v1 v2 v3 s0 z_18 M_17)) else (mo_readBrother_J81   v1 v2 v3 s0 (-1) M))
set_option maxRecDepth 4000 in
theorem mo_readBrother_J61_ok {Z : Nat × (Nat → Int)} {d : Nat} (hd : 6 ≤ d)   {res : AR × MM}  : ∀ (v1 v2 v3 s0 : Int) (M : MM) (j4 j5 j6 : AV), mo_readBrother_J61   v1 v2 v3 s0 M = some res → EX Z d 204 61 [vR 165, vI v1, vI v2, vI v3, j4, j5, j6] [vI s0] M res := by
  obtain ⟨e9, rfl⟩ : ∃ e9, d = e9 + 1 := ⟨d - 1, by omega⟩
  intro v1 v2 v3 s0 M j4 j5 j6 hf
  unfold mo_readBrother_J61 at hf
  refine ex_pu (ls' := [vR 165, vI v1, vI v2, vI v3, vI s0, j5, j6]) (st' := []) (dg dc204 34 rfl) rfl rfl ?_
  refine ex_pu (ls' := [vR 165, vI v1, vI v2, vI v3, vI s0, j5, j6]) (st' := [vI s0]) (dg dc204 35 rfl) rfl rfl ?_
  refine ex_if (t := 72) (dg dc204 36 rfl) rfl hf (fun _ hf => ?_) (fun _ hf => ?_)
  · refine ex_pu (ls' := [vR 165, vI v1, vI v2, vI v3, vI s0, j5, j6]) (st' := [vR 165]) (dg dc204 39 rfl) rfl rfl ?_
    refine ex_ldcT (dg dc204 40 rfl) rfl ?_
    refine ex_pu (ls' := [vR 165, vI v1, vI v2, vI v3, vI s0, j5, j6]) (st' := [vI 0, vR (E0 + 2 + 2 * 66), vR 165]) (dg dc204 41 rfl) rfl rfl ?_
    refine ex_pu (ls' := [vR 165, vI v1, vI v2, vI v3, vI s0, j5, j6]) (st' := [vI 99, vI 0, vR (E0 + 2 + 2 * 66), vR 165]) (dg dc204 42 rfl) rfl rfl ?_
    refine ex_cI (vs := [vR 165, vR (E0 + 2 + 2 * 66), vI 0, vI 99]) (st' := []) (F := (mo_after 66 0 99 M)) (Or.inr (Or.inl ⟨rfl, (dg dc204 43 rfl)⟩)) rfl rfl (rk1 (LOC.st (Nat.le_of_ble_eq_true rfl) rfl) rfl) rfl (fun _ r9 => mo_after_ok (Z := Z) (d := e9) (by omega) (by decide)  r9) hf (fun z_18 M_17 he_16 hf => ?_)
    exact mo_readBrother_J81_ok hd   v1 v2 v3 s0 z_18 M_17 _ _ hf
  · refine ex_pu (ls' := [vR 165, vI v1, vI v2, vI v3, vI s0, j5, j6]) (st' := [vI (-1)]) (dg dc204 37 rfl) rfl rfl ?_
    refine ex_goto (t := 81) (dg dc204 38 rfl) rfl rfl ?_
    exact mo_readBrother_J81_ok hd   v1 v2 v3 s0 (-1) M _ _ hf
def mo_readBrother_J45   (v1 v2 s0 : Int) (M : MM) : OR :=
  (bif cmpB .ge s0 0 then (bI (mo_number 0 15 M) fun z_15 M_14 => (mo_readBrother_J61   v1 v2 s0 z_15 M_14)) else (mo_readBrother_J61   v1 v2 s0 (-1) M))
set_option maxRecDepth 4000 in
theorem mo_readBrother_J45_ok {Z : Nat × (Nat → Int)} {d : Nat} (hd : 6 ≤ d)   {res : AR × MM}  : ∀ (v1 v2 s0 : Int) (M : MM) (j3 j4 j5 j6 : AV), mo_readBrother_J45   v1 v2 s0 M = some res → EX Z d 204 45 [vR 165, vI v1, vI v2, j3, j4, j5, j6] [vI s0] M res := by
  obtain ⟨e9, rfl⟩ : ∃ e9, d = e9 + 1 := ⟨d - 1, by omega⟩
  intro v1 v2 s0 M j3 j4 j5 j6 hf
  unfold mo_readBrother_J45 at hf
  refine ex_pu (ls' := [vR 165, vI v1, vI v2, vI s0, j4, j5, j6]) (st' := []) (dg dc204 25 rfl) rfl rfl ?_
  refine ex_pu (ls' := [vR 165, vI v1, vI v2, vI s0, j4, j5, j6]) (st' := [vI s0]) (dg dc204 26 rfl) rfl rfl ?_
  refine ex_if (t := 54) (dg dc204 27 rfl) rfl hf (fun _ hf => ?_) (fun _ hf => ?_)
  · refine ex_pu (ls' := [vR 165, vI v1, vI v2, vI s0, j4, j5, j6]) (st' := [vR 165]) (dg dc204 30 rfl) rfl rfl ?_
    refine ex_pu (ls' := [vR 165, vI v1, vI v2, vI s0, j4, j5, j6]) (st' := [vI 0, vR 165]) (dg dc204 31 rfl) rfl rfl ?_
    refine ex_pu (ls' := [vR 165, vI v1, vI v2, vI s0, j4, j5, j6]) (st' := [vI 15, vI 0, vR 165]) (dg dc204 32 rfl) rfl rfl ?_
    refine ex_cI (vs := [vR 165, vI 0, vI 15]) (st' := []) (F := (mo_number 0 15 M)) (Or.inr (Or.inl ⟨rfl, (dg dc204 33 rfl)⟩)) rfl rfl (rk1 (LOC.st (Nat.le_of_ble_eq_true rfl) rfl) rfl) rfl (fun _ r9 => mo_number_ok (Z := Z) (d := e9) (by omega)  r9) hf (fun z_15 M_14 he_13 hf => ?_)
    exact mo_readBrother_J61_ok hd   v1 v2 s0 z_15 M_14 _ _ _ hf
  · refine ex_pu (ls' := [vR 165, vI v1, vI v2, vI s0, j4, j5, j6]) (st' := [vI (-1)]) (dg dc204 28 rfl) rfl rfl ?_
    refine ex_goto (t := 61) (dg dc204 29 rfl) rfl rfl ?_
    exact mo_readBrother_J61_ok hd   v1 v2 s0 (-1) M _ _ _ hf
def mo_readBrother  (M : MM) : OR :=
  (bI (mo_brothers  M) fun z_3 M_2 => (bI (mo_brothers  M_2) fun z_6 M_5 => (bif cmpB .ne z_6 7 then (bI (mo_placeTold  M_5) fun z_9 M_8 => (bif cmpB .ge z_9 0 then (bI (mo_after 60 0 15 M_8) fun z_12 M_11 => (mo_readBrother_J45   (194 + (6 * z_3)) z_9 z_12 M_11)) else (mo_readBrother_J45   (194 + (6 * z_3)) z_9 (-1) M_8))) else some (rI 0, M_5))))
set_option maxRecDepth 4000 in
theorem mo_readBrother_ok {Z : Nat × (Nat → Int)} {d : Nat} (hd : 6 ≤ d) {M : MM}  {res : AR × MM} (hf : mo_readBrother  M = some res) : EX Z d 204 0 (ent 204 [vR 165]) [] M res := by
  obtain ⟨e9, rfl⟩ : ∃ e9, d = e9 + 1 := ⟨d - 1, by omega⟩
  unfold mo_readBrother at hf
  show EX Z _ 204 0 [vR 165, vU, vU, vU, vU, vU, vU] [] M res
  refine ex_pu (ls' := [vR 165, vU, vU, vU, vU, vU, vU]) (st' := [vI 194]) (dg dc204 0 rfl) rfl rfl ?_
  refine ex_pu (ls' := [vR 165, vU, vU, vU, vU, vU, vU]) (st' := [vI 6, vI 194]) (dg dc204 1 rfl) rfl rfl ?_
  refine ex_pu (ls' := [vR 165, vU, vU, vU, vU, vU, vU]) (st' := [vR 165, vI 6, vI 194]) (dg dc204 2 rfl) rfl rfl ?_
  refine ex_cI (vs := [vR 165]) (st' := [vI 6, vI 194]) (F := (mo_brothers  M)) (Or.inr (Or.inl ⟨rfl, (dg dc204 3 rfl)⟩)) rfl rfl (rk1 (LOC.st (Nat.le_of_ble_eq_true rfl) rfl) rfl) rfl (fun _ r9 => mo_brothers_ok (Z := Z) (d := e9) (by omega)  r9) hf (fun z_3 M_2 he_1 hf => ?_)
  refine ex_pu (ls' := [vR 165, vU, vU, vU, vU, vU, vU]) (st' := [vI (6 * z_3), vI 194]) (dg dc204 4 rfl) rfl rfl ?_
  refine ex_pu (ls' := [vR 165, vU, vU, vU, vU, vU, vU]) (st' := [vI (194 + (6 * z_3))]) (dg dc204 5 rfl) rfl rfl ?_
  refine ex_pu (ls' := [vR 165, vI (194 + (6 * z_3)), vU, vU, vU, vU, vU]) (st' := []) (dg dc204 6 rfl) rfl rfl ?_
  refine ex_pu (ls' := [vR 165, vI (194 + (6 * z_3)), vU, vU, vU, vU, vU]) (st' := [vR 165]) (dg dc204 7 rfl) rfl rfl ?_
  refine ex_cI (vs := [vR 165]) (st' := []) (F := (mo_brothers  M_2)) (Or.inr (Or.inl ⟨rfl, (dg dc204 8 rfl)⟩)) rfl rfl (rk1 (LOC.st (Nat.le_of_ble_eq_true rfl) rfl) rfl) rfl (fun _ r9 => mo_brothers_ok (Z := Z) (d := e9) (by omega)  r9) hf (fun z_6 M_5 he_4 hf => ?_)
  refine ex_pu (ls' := [vR 165, vI (194 + (6 * z_3)), vU, vU, vU, vU, vU]) (st' := [vI 7, vI z_6]) (dg dc204 9 rfl) rfl rfl ?_
  refine ex_icmp (t := 23) (dg dc204 10 rfl) rfl hf (fun _ hf => ?_) (fun _ hf => ?_)
  · refine ex_pu (ls' := [vR 165, vI (194 + (6 * z_3)), vU, vU, vU, vU, vU]) (st' := [vR 165]) (dg dc204 13 rfl) rfl rfl ?_
    refine ex_cI (vs := [vR 165]) (st' := []) (F := (mo_placeTold  M_5)) (Or.inr (Or.inl ⟨rfl, (dg dc204 14 rfl)⟩)) rfl rfl (rk1 (LOC.st (Nat.le_of_ble_eq_true rfl) rfl) rfl) rfl (fun _ r9 => mo_placeTold_ok (Z := Z) (d := e9) (by omega)  r9) hf (fun z_9 M_8 he_7 hf => ?_)
    refine ex_pu (ls' := [vR 165, vI (194 + (6 * z_3)), vI z_9, vU, vU, vU, vU]) (st' := []) (dg dc204 15 rfl) rfl rfl ?_
    refine ex_pu (ls' := [vR 165, vI (194 + (6 * z_3)), vI z_9, vU, vU, vU, vU]) (st' := [vI z_9]) (dg dc204 16 rfl) rfl rfl ?_
    refine ex_if (t := 36) (dg dc204 17 rfl) rfl hf (fun _ hf => ?_) (fun _ hf => ?_)
    · refine ex_pu (ls' := [vR 165, vI (194 + (6 * z_3)), vI z_9, vU, vU, vU, vU]) (st' := [vR 165]) (dg dc204 20 rfl) rfl rfl ?_
      refine ex_ldcT (dg dc204 21 rfl) rfl ?_
      refine ex_pu (ls' := [vR 165, vI (194 + (6 * z_3)), vI z_9, vU, vU, vU, vU]) (st' := [vI 0, vR (E0 + 2 + 2 * 60), vR 165]) (dg dc204 22 rfl) rfl rfl ?_
      refine ex_pu (ls' := [vR 165, vI (194 + (6 * z_3)), vI z_9, vU, vU, vU, vU]) (st' := [vI 15, vI 0, vR (E0 + 2 + 2 * 60), vR 165]) (dg dc204 23 rfl) rfl rfl ?_
      refine ex_cI (vs := [vR 165, vR (E0 + 2 + 2 * 60), vI 0, vI 15]) (st' := []) (F := (mo_after 60 0 15 M_8)) (Or.inr (Or.inl ⟨rfl, (dg dc204 24 rfl)⟩)) rfl rfl (rk1 (LOC.st (Nat.le_of_ble_eq_true rfl) rfl) rfl) rfl (fun _ r9 => mo_after_ok (Z := Z) (d := e9) (by omega) (by decide)  r9) hf (fun z_12 M_11 he_10 hf => ?_)
      exact mo_readBrother_J45_ok hd   (194 + (6 * z_3)) z_9 z_12 M_11 _ _ _ _ hf
    · refine ex_pu (ls' := [vR 165, vI (194 + (6 * z_3)), vI z_9, vU, vU, vU, vU]) (st' := [vI (-1)]) (dg dc204 18 rfl) rfl rfl ?_
      refine ex_goto (t := 45) (dg dc204 19 rfl) rfl rfl ?_
      exact mo_readBrother_J45_ok hd   (194 + (6 * z_3)) z_9 (-1) M_8 _ _ _ _ hf
  · refine ex_pu (ls' := [vR 165, vI (194 + (6 * z_3)), vU, vU, vU, vU, vU]) (st' := [vI 0]) (dg dc204 11 rfl) rfl rfl ?_
    exact ex_ire (dg dc204 12 rfl) rfl hf
-- GlassHillModel.readTaleLine
def il205 : List (Nat × Instr × Nat) := [(0, .aload_n 0, 1), (1, .ldc 181, 2), (3, .invokevirtual 124, 3), (6, .ifCond .eq 8, 3), (9, .aload_n 0, 1), (10, .invokevirtual 183, 3), (13, .ireturn, 1), (14, .aload_n 0, 1), (15, .ldc 187, 2), (17, .invokevirtual 124, 3), (20, .ifCond .eq 8, 3), (23, .aload_n 0, 1), (24, .invokevirtual 189, 3), (27, .ireturn, 1), (28, .aload_n 0, 1), (29, .ldc 192, 2), (31, .invokevirtual 124, 3), (34, .ifCond .eq 8, 3), (37, .aload_n 0, 1), (38, .invokevirtual 194, 3), (41, .ireturn, 1), (42, .aload_n 0, 1), (43, .ldc 197, 2), (45, .invokevirtual 124, 3), (48, .ifCond .eq 8, 3), (51, .aload_n 0, 1), (52, .invokevirtual 199, 3), (55, .ireturn, 1), (56, .aload_n 0, 1), (57, .ldc 202, 2), (59, .invokevirtual 124, 3), (62, .ifCond .eq 14, 3), (65, .aload_n 0, 1), (66, .invokevirtual 204, 3), (69, .ifCond .eq 7, 3), (72, .iconst 1, 1), (73, .goto 4, 3), (76, .iconst 0, 1), (77, .ireturn, 1)]
theorem dc205 : dcs (mC 205) il205 := dc_of (by decide +kernel)
def mo_readTaleLine  (M : MM) : OR :=
  (bI (mo_isWord 52 M) fun z_3 M_2 => (bif cmpB .eq z_3 0 then (bI (mo_isWord 53 M_2) fun z_6 M_5 => (bif cmpB .eq z_6 0 then (bI (mo_isWord 56 M_5) fun z_9 M_8 => (bif cmpB .eq z_9 0 then (bI (mo_isWord 59 M_8) fun z_12 M_11 => (bif cmpB .eq z_12 0 then (bI (mo_isWord 65 M_11) fun z_15 M_14 => (bif cmpB .eq z_15 0 then some (rI 0, M_14) else (bI (mo_readBrother  M_14) fun z_18 M_17 => (bif cmpB .eq z_18 0 then some (rI 0, M_17) else some (rI 1, M_17))))) else (bI (mo_readKeeper  M_11) fun z_21 M_20 => (bif zo z_21 then some (rI z_21, M_20) else none)))) else (bI (mo_readRoad  M_8) fun z_24 M_23 => (bif zo z_24 then some (rI z_24, M_23) else none)))) else (bI (mo_readThing  M_5) fun z_27 M_26 => (bif zo z_27 then some (rI z_27, M_26) else none)))) else (bI (mo_readPlace  M_2) fun z_30 M_29 => (bif zo z_30 then some (rI z_30, M_29) else none))))
set_option maxRecDepth 4000 in
theorem mo_readTaleLine_ok {Z : Nat × (Nat → Int)} {d : Nat} (hd : 8 ≤ d) {M : MM}  {res : AR × MM} (hf : mo_readTaleLine  M = some res) : EX Z d 205 0 (ent 205 [vR 165]) [] M res := by
  obtain ⟨e9, rfl⟩ : ∃ e9, d = e9 + 1 := ⟨d - 1, by omega⟩
  unfold mo_readTaleLine at hf
  show EX Z _ 205 0 [vR 165] [] M res
  refine ex_pu (ls' := [vR 165]) (st' := [vR 165]) (dg dc205 0 rfl) rfl rfl ?_
  refine ex_ldcT (dg dc205 1 rfl) rfl ?_
  refine ex_cI (vs := [vR 165, vR (E0 + 2 + 2 * 52)]) (st' := []) (F := (mo_isWord 52 M)) (Or.inr (Or.inl ⟨rfl, (dg dc205 2 rfl)⟩)) rfl rfl (rk1 (LOC.st (Nat.le_of_ble_eq_true rfl) rfl) rfl) rfl (fun _ r9 => mo_isWord_ok (Z := Z) (d := e9) (by omega) (by decide)  r9) hf (fun z_3 M_2 he_1 hf => ?_)
  refine ex_if (t := 14) (dg dc205 3 rfl) rfl hf (fun _ hf => ?_) (fun _ hf => ?_)
  · refine ex_pu (ls' := [vR 165]) (st' := [vR 165]) (dg dc205 7 rfl) rfl rfl ?_
    refine ex_ldcT (dg dc205 8 rfl) rfl ?_
    refine ex_cI (vs := [vR 165, vR (E0 + 2 + 2 * 53)]) (st' := []) (F := (mo_isWord 53 M_2)) (Or.inr (Or.inl ⟨rfl, (dg dc205 9 rfl)⟩)) rfl rfl (rk1 (LOC.st (Nat.le_of_ble_eq_true rfl) rfl) rfl) rfl (fun _ r9 => mo_isWord_ok (Z := Z) (d := e9) (by omega) (by decide)  r9) hf (fun z_6 M_5 he_4 hf => ?_)
    refine ex_if (t := 28) (dg dc205 10 rfl) rfl hf (fun _ hf => ?_) (fun _ hf => ?_)
    · refine ex_pu (ls' := [vR 165]) (st' := [vR 165]) (dg dc205 14 rfl) rfl rfl ?_
      refine ex_ldcT (dg dc205 15 rfl) rfl ?_
      refine ex_cI (vs := [vR 165, vR (E0 + 2 + 2 * 56)]) (st' := []) (F := (mo_isWord 56 M_5)) (Or.inr (Or.inl ⟨rfl, (dg dc205 16 rfl)⟩)) rfl rfl (rk1 (LOC.st (Nat.le_of_ble_eq_true rfl) rfl) rfl) rfl (fun _ r9 => mo_isWord_ok (Z := Z) (d := e9) (by omega) (by decide)  r9) hf (fun z_9 M_8 he_7 hf => ?_)
      refine ex_if (t := 42) (dg dc205 17 rfl) rfl hf (fun _ hf => ?_) (fun _ hf => ?_)
      · refine ex_pu (ls' := [vR 165]) (st' := [vR 165]) (dg dc205 21 rfl) rfl rfl ?_
        refine ex_ldcT (dg dc205 22 rfl) rfl ?_
        refine ex_cI (vs := [vR 165, vR (E0 + 2 + 2 * 59)]) (st' := []) (F := (mo_isWord 59 M_8)) (Or.inr (Or.inl ⟨rfl, (dg dc205 23 rfl)⟩)) rfl rfl (rk1 (LOC.st (Nat.le_of_ble_eq_true rfl) rfl) rfl) rfl (fun _ r9 => mo_isWord_ok (Z := Z) (d := e9) (by omega) (by decide)  r9) hf (fun z_12 M_11 he_10 hf => ?_)
        refine ex_if (t := 56) (dg dc205 24 rfl) rfl hf (fun _ hf => ?_) (fun _ hf => ?_)
        · refine ex_pu (ls' := [vR 165]) (st' := [vR 165]) (dg dc205 28 rfl) rfl rfl ?_
          refine ex_ldcT (dg dc205 29 rfl) rfl ?_
          refine ex_cI (vs := [vR 165, vR (E0 + 2 + 2 * 65)]) (st' := []) (F := (mo_isWord 65 M_11)) (Or.inr (Or.inl ⟨rfl, (dg dc205 30 rfl)⟩)) rfl rfl (rk1 (LOC.st (Nat.le_of_ble_eq_true rfl) rfl) rfl) rfl (fun _ r9 => mo_isWord_ok (Z := Z) (d := e9) (by omega) (by decide)  r9) hf (fun z_15 M_14 he_13 hf => ?_)
          refine ex_if (t := 76) (dg dc205 31 rfl) rfl hf (fun _ hf => ?_) (fun _ hf => ?_)
          · refine ex_pu (ls' := [vR 165]) (st' := [vI 0]) (dg dc205 37 rfl) rfl rfl ?_
            exact ex_ire (dg dc205 38 rfl) rfl hf
          · refine ex_pu (ls' := [vR 165]) (st' := [vR 165]) (dg dc205 32 rfl) rfl rfl ?_
            refine ex_cI (vs := [vR 165]) (st' := []) (F := (mo_readBrother  M_14)) (Or.inr (Or.inl ⟨rfl, (dg dc205 33 rfl)⟩)) rfl rfl (rk1 (LOC.st (Nat.le_of_ble_eq_true rfl) rfl) rfl) rfl (fun _ r9 => mo_readBrother_ok (Z := Z) (d := e9) (by omega)  r9) hf (fun z_18 M_17 he_16 hf => ?_)
            refine ex_if (t := 76) (dg dc205 34 rfl) rfl hf (fun _ hf => ?_) (fun _ hf => ?_)
            · refine ex_pu (ls' := [vR 165]) (st' := [vI 0]) (dg dc205 37 rfl) rfl rfl ?_
              exact ex_ire (dg dc205 38 rfl) rfl hf
            · refine ex_pu (ls' := [vR 165]) (st' := [vI 1]) (dg dc205 35 rfl) rfl rfl ?_
              refine ex_goto (t := 77) (dg dc205 36 rfl) rfl rfl ?_
              exact ex_ire (dg dc205 38 rfl) rfl hf
        · refine ex_pu (ls' := [vR 165]) (st' := [vR 165]) (dg dc205 25 rfl) rfl rfl ?_
          refine ex_cI (vs := [vR 165]) (st' := []) (F := (mo_readKeeper  M_11)) (Or.inr (Or.inl ⟨rfl, (dg dc205 26 rfl)⟩)) rfl rfl (rk1 (LOC.st (Nat.le_of_ble_eq_true rfl) rfl) rfl) rfl (fun _ r9 => mo_readKeeper_ok (Z := Z) (d := e9) (by omega)  r9) hf (fun z_21 M_20 he_19 hf => ?_)
          exact ex_irb (dg dc205 27 rfl) rfl hf
      · refine ex_pu (ls' := [vR 165]) (st' := [vR 165]) (dg dc205 18 rfl) rfl rfl ?_
        refine ex_cI (vs := [vR 165]) (st' := []) (F := (mo_readRoad  M_8)) (Or.inr (Or.inl ⟨rfl, (dg dc205 19 rfl)⟩)) rfl rfl (rk1 (LOC.st (Nat.le_of_ble_eq_true rfl) rfl) rfl) rfl (fun _ r9 => mo_readRoad_ok (Z := Z) (d := e9) (by omega)  r9) hf (fun z_24 M_23 he_22 hf => ?_)
        exact ex_irb (dg dc205 20 rfl) rfl hf
    · refine ex_pu (ls' := [vR 165]) (st' := [vR 165]) (dg dc205 11 rfl) rfl rfl ?_
      refine ex_cI (vs := [vR 165]) (st' := []) (F := (mo_readThing  M_5)) (Or.inr (Or.inl ⟨rfl, (dg dc205 12 rfl)⟩)) rfl rfl (rk1 (LOC.st (Nat.le_of_ble_eq_true rfl) rfl) rfl) rfl (fun _ r9 => mo_readThing_ok (Z := Z) (d := e9) (by omega)  r9) hf (fun z_27 M_26 he_25 hf => ?_)
      exact ex_irb (dg dc205 13 rfl) rfl hf
  · refine ex_pu (ls' := [vR 165]) (st' := [vR 165]) (dg dc205 4 rfl) rfl rfl ?_
    refine ex_cI (vs := [vR 165]) (st' := []) (F := (mo_readPlace  M_2)) (Or.inr (Or.inl ⟨rfl, (dg dc205 5 rfl)⟩)) rfl rfl (rk1 (LOC.st (Nat.le_of_ble_eq_true rfl) rfl) rfl) rfl (fun _ r9 => mo_readPlace_ok (Z := Z) (d := e9) (by omega)  r9) hf (fun z_30 M_29 he_28 hf => ?_)
    exact ex_irb (dg dc205 6 rfl) rfl hf
-- GlassHillModel.emits
def il206 : List (Nat × Instr × Nat) := [(0, .aload_n 0, 1), (1, .getfield 13, 3), (4, .sipush 1164, 3), (7, .iconst 2, 1), (8, .aload_n 0, 1), (9, .getfield 207, 3), (12, .imul, 1), (13, .iadd, 1), (14, .iload_n 1, 1), (15, .iastore, 1), (16, .aload_n 0, 1), (17, .getfield 13, 3), (20, .sipush 1164, 3), (23, .iconst 2, 1), (24, .aload_n 0, 1), (25, .getfield 207, 3), (28, .imul, 1), (29, .iadd, 1), (30, .iconst 1, 1), (31, .iadd, 1), (32, .iload_n 2, 1), (33, .iastore, 1), (34, .aload_n 0, 1), (35, .dup, 1), (36, .getfield 207, 3), (39, .iconst 1, 1), (40, .iadd, 1), (41, .putfield 207, 3), (44, .return_, 1)]
theorem dc206 : dcs (mC 206) il206 := dc_of (by decide +kernel)
def mo_emits (v1 : Int) (v2 : Int) (M : MM) : OR :=
  (bif inB (1164 + (2 * (M 165 15))) 1964 then (sM (mU M 166 ((1164 + (2 * (M 165 15)))).toNat v1) fun M_1 => (bif inB ((1164 + (2 * (M_1 165 15))) + 1) 1964 then (sM (mU M_1 166 (((1164 + (2 * (M_1 165 15))) + 1)).toNat v2) fun M_3 => (sM (mU M_3 165 15 ((M_3 165 15) + 1)) fun M_5 => some (rV, M_5))) else none)) else none)
set_option maxRecDepth 4000 in
theorem mo_emits_ok {Z : Nat × (Nat → Int)} {d : Nat} (hd : 0 ≤ d) {M : MM}  {v1 v2 : Int} {res : AR × MM} (hf : mo_emits v1 v2 M = some res) : EX Z d 206 0 (ent 206 [vR 165, vI v1, vI v2]) [] M res := by
  unfold mo_emits at hf
  show EX Z _ 206 0 [vR 165, vI v1, vI v2] [] M res
  refine ex_pu (ls' := [vR 165, vI v1, vI v2]) (st' := [vR 165]) (dg dc206 0 rfl) rfl rfl ?_
  refine ex_getO (dg dc206 1 rfl) rfl (LOC.st (Nat.le_of_ble_eq_true rfl) rfl) rfl ?_
  show EX Z _ 206 _ [vR 165, vI v1, vI v2] [vR 166] _ _
  refine ex_pu (ls' := [vR 165, vI v1, vI v2]) (st' := [vI 1164, vR 166]) (dg dc206 2 rfl) rfl rfl ?_
  refine ex_pu (ls' := [vR 165, vI v1, vI v2]) (st' := [vI 2, vI 1164, vR 166]) (dg dc206 3 rfl) rfl rfl ?_
  refine ex_pu (ls' := [vR 165, vI v1, vI v2]) (st' := [vR 165, vI 2, vI 1164, vR 166]) (dg dc206 4 rfl) rfl rfl ?_
  refine ex_getI (dg dc206 5 rfl) rfl (LOC.st (Nat.le_of_ble_eq_true rfl) rfl) rfl ?_
  refine ex_pu (ls' := [vR 165, vI v1, vI v2]) (st' := [vI (2 * (M 165 15)), vI 1164, vR 166]) (dg dc206 6 rfl) rfl rfl ?_
  refine ex_pu (ls' := [vR 165, vI v1, vI v2]) (st' := [vI (1164 + (2 * (M 165 15))), vR 166]) (dg dc206 7 rfl) rfl rfl ?_
  refine ex_pu (ls' := [vR 165, vI v1, vI v2]) (st' := [vI v1, vI (1164 + (2 * (M 165 15))), vR 166]) (dg dc206 8 rfl) rfl rfl ?_
  refine ex_iast (dg dc206 9 rfl) (LOC.st (Nat.le_of_ble_eq_true rfl) rfl) rfl rfl hf (fun _ hf => ?_)
  refine ex_gen hf (fun M_1 hM_2 hf => ?_)
  refine ex_pu (ls' := [vR 165, vI v1, vI v2]) (st' := [vR 165]) (dg dc206 10 rfl) rfl rfl ?_
  refine ex_getO (dg dc206 11 rfl) rfl (LOC.st (Nat.le_of_ble_eq_true rfl) rfl) rfl ?_
  show EX Z _ 206 _ [vR 165, vI v1, vI v2] [vR 166] _ _
  refine ex_pu (ls' := [vR 165, vI v1, vI v2]) (st' := [vI 1164, vR 166]) (dg dc206 12 rfl) rfl rfl ?_
  refine ex_pu (ls' := [vR 165, vI v1, vI v2]) (st' := [vI 2, vI 1164, vR 166]) (dg dc206 13 rfl) rfl rfl ?_
  refine ex_pu (ls' := [vR 165, vI v1, vI v2]) (st' := [vR 165, vI 2, vI 1164, vR 166]) (dg dc206 14 rfl) rfl rfl ?_
  refine ex_getI (dg dc206 15 rfl) rfl (LOC.st (Nat.le_of_ble_eq_true rfl) rfl) rfl ?_
  refine ex_pu (ls' := [vR 165, vI v1, vI v2]) (st' := [vI (2 * (M_1 165 15)), vI 1164, vR 166]) (dg dc206 16 rfl) rfl rfl ?_
  refine ex_pu (ls' := [vR 165, vI v1, vI v2]) (st' := [vI (1164 + (2 * (M_1 165 15))), vR 166]) (dg dc206 17 rfl) rfl rfl ?_
  refine ex_pu (ls' := [vR 165, vI v1, vI v2]) (st' := [vI 1, vI (1164 + (2 * (M_1 165 15))), vR 166]) (dg dc206 18 rfl) rfl rfl ?_
  refine ex_pu (ls' := [vR 165, vI v1, vI v2]) (st' := [vI ((1164 + (2 * (M_1 165 15))) + 1), vR 166]) (dg dc206 19 rfl) rfl rfl ?_
  refine ex_pu (ls' := [vR 165, vI v1, vI v2]) (st' := [vI v2, vI ((1164 + (2 * (M_1 165 15))) + 1), vR 166]) (dg dc206 20 rfl) rfl rfl ?_
  refine ex_iast (dg dc206 21 rfl) (LOC.st (Nat.le_of_ble_eq_true rfl) rfl) rfl rfl hf (fun _ hf => ?_)
  refine ex_gen hf (fun M_3 hM_4 hf => ?_)
  refine ex_pu (ls' := [vR 165, vI v1, vI v2]) (st' := [vR 165]) (dg dc206 22 rfl) rfl rfl ?_
  refine ex_pu (ls' := [vR 165, vI v1, vI v2]) (st' := [vR 165, vR 165]) (dg dc206 23 rfl) rfl rfl ?_
  refine ex_getI (dg dc206 24 rfl) rfl (LOC.st (Nat.le_of_ble_eq_true rfl) rfl) rfl ?_
  refine ex_pu (ls' := [vR 165, vI v1, vI v2]) (st' := [vI 1, vI (M_3 165 15), vR 165]) (dg dc206 25 rfl) rfl rfl ?_
  refine ex_pu (ls' := [vR 165, vI v1, vI v2]) (st' := [vI ((M_3 165 15) + 1), vR 165]) (dg dc206 26 rfl) rfl rfl ?_
  refine ex_putI (dg dc206 27 rfl) rfl (LOC.st (Nat.le_of_ble_eq_true rfl) rfl) rfl rfl rfl ?_
  refine ex_gen hf (fun M_5 hM_6 hf => ?_)
  exact ex_vre (dg dc206 28 rfl) rfl hf
-- GlassHillModel.readPart
def il207 : List (Nat × Instr × Nat) := [(0, .aload_n 0, 1), (1, .invokevirtual 121, 3), (4, .aload_n 0, 1), (5, .getfield 96, 3), (8, .aload_n 0, 1), (9, .getfield 106, 3), (12, .if_icmp .ne 22, 3), (15, .aload_n 0, 1), (16, .iconst 0, 1), (17, .sipush 999, 3), (20, .invokevirtual 128, 3), (23, .istore_n 1, 1), (24, .aload_n 0, 1), (25, .bipush 8, 2), (27, .iload_n 1, 1), (28, .invokevirtual 210, 3), (31, .goto 103, 3), (34, .aload_n 0, 1), (35, .ldc 192, 2), (37, .invokevirtual 124, 3), (40, .ifCond .eq 7, 3), (43, .iconst 0, 1), (44, .goto 83, 3), (47, .aload_n 0, 1), (48, .ldc 214, 2), (50, .invokevirtual 124, 3), (53, .ifCond .eq 7, 3), (56, .iconst 1, 1), (57, .goto 70, 3), (60, .aload_n 0, 1), (61, .ldc 157, 2), (63, .invokevirtual 124, 3), (66, .ifCond .eq 7, 3), (69, .iconst 2, 1), (70, .goto 57, 3), (73, .aload_n 0, 1), (74, .ldc 216, 2), (76, .invokevirtual 124, 3), (79, .ifCond .eq 7, 3), (82, .iconst 3, 1), (83, .goto 44, 3), (86, .aload_n 0, 1), (87, .ldc 218, 2), (89, .invokevirtual 124, 3), (92, .ifCond .eq 7, 3), (95, .iconst 4, 1), (96, .goto 31, 3), (99, .aload_n 0, 1), (100, .ldc 220, 2), (102, .invokevirtual 124, 3), (105, .ifCond .eq 7, 3), (108, .iconst 5, 1), (109, .goto 18, 3), (112, .aload_n 0, 1), (113, .ldc 135, 2), (115, .invokevirtual 124, 3), (118, .ifCond .eq 8, 3), (121, .bipush 6, 2), (123, .goto 4, 3), (126, .iconst (-1), 1), (127, .istore_n 1, 1), (128, .aload_n 0, 1), (129, .iload_n 1, 1), (130, .iconst 0, 1), (131, .invokevirtual 210, 3), (134, .iload_n 1, 1), (135, .ifCond .lt 7, 3), (138, .iconst 1, 1), (139, .goto 4, 3), (142, .iconst 0, 1), (143, .ireturn, 1)]
theorem dc207 : dcs (mC 207) il207 := dc_of (by decide +kernel)
def mo_readPart  (M : MM) : OR :=
  (bV (mo_letters  M) fun M_2 => (bif cmpB .ne (M_2 165 9) (M_2 165 11) then (bI (mo_isWord 56 M_2) fun z_6 M_5 => (bif cmpB .eq z_6 0 then (bI (mo_isWord 73 M_5) fun z_9 M_8 => (bif cmpB .eq z_9 0 then (bI (mo_isWord 62 M_8) fun z_12 M_11 => (bif cmpB .eq z_12 0 then (bI (mo_isWord 74 M_11) fun z_15 M_14 => (bif cmpB .eq z_15 0 then (bI (mo_isWord 75 M_14) fun z_18 M_17 => (bif cmpB .eq z_18 0 then (bI (mo_isWord 76 M_17) fun z_21 M_20 => (bif cmpB .eq z_21 0 then (bI (mo_isWord 54 M_20) fun z_24 M_23 => (bif cmpB .eq z_24 0 then (bV (mo_emits (-1) 0 M_23) fun M_26 => some (rI 0, M_26)) else (bV (mo_emits 6 0 M_23) fun M_29 => some (rI 1, M_29)))) else (bV (mo_emits 5 0 M_20) fun M_32 => some (rI 1, M_32)))) else (bV (mo_emits 4 0 M_17) fun M_35 => some (rI 1, M_35)))) else (bV (mo_emits 3 0 M_14) fun M_38 => some (rI 1, M_38)))) else (bV (mo_emits 2 0 M_11) fun M_41 => some (rI 1, M_41)))) else (bV (mo_emits 1 0 M_8) fun M_44 => some (rI 1, M_44)))) else (bV (mo_emits 0 0 M_5) fun M_47 => some (rI 1, M_47)))) else (bI (mo_number 0 999 M_2) fun z_51 M_50 => (bV (mo_emits 8 z_51 M_50) fun M_53 => (bif cmpB .lt z_51 0 then some (rI 0, M_53) else some (rI 1, M_53))))))
set_option maxRecDepth 4000 in
theorem mo_readPart_ok {Z : Nat × (Nat → Int)} {d : Nat} (hd : 5 ≤ d) {M : MM}  {res : AR × MM} (hf : mo_readPart  M = some res) : EX Z d 207 0 (ent 207 [vR 165]) [] M res := by
  obtain ⟨e9, rfl⟩ : ∃ e9, d = e9 + 1 := ⟨d - 1, by omega⟩
  unfold mo_readPart at hf
  show EX Z _ 207 0 [vR 165, vU] [] M res
  refine ex_pu (ls' := [vR 165, vU]) (st' := [vR 165]) (dg dc207 0 rfl) rfl rfl ?_
  refine ex_cV (vs := [vR 165]) (st' := []) (F := (mo_letters  M)) (Or.inr (Or.inl ⟨rfl, (dg dc207 1 rfl)⟩)) rfl rfl (rk1 (LOC.st (Nat.le_of_ble_eq_true rfl) rfl) rfl) rfl (fun _ r9 => mo_letters_ok (Z := Z) (d := e9) (by omega)  r9) hf (fun M_2 he_1 hf => ?_)
  refine ex_pu (ls' := [vR 165, vU]) (st' := [vR 165]) (dg dc207 2 rfl) rfl rfl ?_
  refine ex_getI (dg dc207 3 rfl) rfl (LOC.st (Nat.le_of_ble_eq_true rfl) rfl) rfl ?_
  refine ex_pu (ls' := [vR 165, vU]) (st' := [vR 165, vI (M_2 165 9)]) (dg dc207 4 rfl) rfl rfl ?_
  refine ex_getI (dg dc207 5 rfl) rfl (LOC.st (Nat.le_of_ble_eq_true rfl) rfl) rfl ?_
  refine ex_icmp (t := 34) (dg dc207 6 rfl) rfl hf (fun _ hf => ?_) (fun _ hf => ?_)
  · refine ex_pu (ls' := [vR 165, vU]) (st' := [vR 165]) (dg dc207 17 rfl) rfl rfl ?_
    refine ex_ldcT (dg dc207 18 rfl) rfl ?_
    refine ex_cI (vs := [vR 165, vR (E0 + 2 + 2 * 56)]) (st' := []) (F := (mo_isWord 56 M_2)) (Or.inr (Or.inl ⟨rfl, (dg dc207 19 rfl)⟩)) rfl rfl (rk1 (LOC.st (Nat.le_of_ble_eq_true rfl) rfl) rfl) rfl (fun _ r9 => mo_isWord_ok (Z := Z) (d := e9) (by omega) (by decide)  r9) hf (fun z_6 M_5 he_4 hf => ?_)
    refine ex_if (t := 47) (dg dc207 20 rfl) rfl hf (fun _ hf => ?_) (fun _ hf => ?_)
    · refine ex_pu (ls' := [vR 165, vU]) (st' := [vR 165]) (dg dc207 23 rfl) rfl rfl ?_
      refine ex_ldcT (dg dc207 24 rfl) rfl ?_
      refine ex_cI (vs := [vR 165, vR (E0 + 2 + 2 * 73)]) (st' := []) (F := (mo_isWord 73 M_5)) (Or.inr (Or.inl ⟨rfl, (dg dc207 25 rfl)⟩)) rfl rfl (rk1 (LOC.st (Nat.le_of_ble_eq_true rfl) rfl) rfl) rfl (fun _ r9 => mo_isWord_ok (Z := Z) (d := e9) (by omega) (by decide)  r9) hf (fun z_9 M_8 he_7 hf => ?_)
      refine ex_if (t := 60) (dg dc207 26 rfl) rfl hf (fun _ hf => ?_) (fun _ hf => ?_)
      · refine ex_pu (ls' := [vR 165, vU]) (st' := [vR 165]) (dg dc207 29 rfl) rfl rfl ?_
        refine ex_ldcT (dg dc207 30 rfl) rfl ?_
        refine ex_cI (vs := [vR 165, vR (E0 + 2 + 2 * 62)]) (st' := []) (F := (mo_isWord 62 M_8)) (Or.inr (Or.inl ⟨rfl, (dg dc207 31 rfl)⟩)) rfl rfl (rk1 (LOC.st (Nat.le_of_ble_eq_true rfl) rfl) rfl) rfl (fun _ r9 => mo_isWord_ok (Z := Z) (d := e9) (by omega) (by decide)  r9) hf (fun z_12 M_11 he_10 hf => ?_)
        refine ex_if (t := 73) (dg dc207 32 rfl) rfl hf (fun _ hf => ?_) (fun _ hf => ?_)
        · refine ex_pu (ls' := [vR 165, vU]) (st' := [vR 165]) (dg dc207 35 rfl) rfl rfl ?_
          refine ex_ldcT (dg dc207 36 rfl) rfl ?_
          refine ex_cI (vs := [vR 165, vR (E0 + 2 + 2 * 74)]) (st' := []) (F := (mo_isWord 74 M_11)) (Or.inr (Or.inl ⟨rfl, (dg dc207 37 rfl)⟩)) rfl rfl (rk1 (LOC.st (Nat.le_of_ble_eq_true rfl) rfl) rfl) rfl (fun _ r9 => mo_isWord_ok (Z := Z) (d := e9) (by omega) (by decide)  r9) hf (fun z_15 M_14 he_13 hf => ?_)
          refine ex_if (t := 86) (dg dc207 38 rfl) rfl hf (fun _ hf => ?_) (fun _ hf => ?_)
          · refine ex_pu (ls' := [vR 165, vU]) (st' := [vR 165]) (dg dc207 41 rfl) rfl rfl ?_
            refine ex_ldcT (dg dc207 42 rfl) rfl ?_
            refine ex_cI (vs := [vR 165, vR (E0 + 2 + 2 * 75)]) (st' := []) (F := (mo_isWord 75 M_14)) (Or.inr (Or.inl ⟨rfl, (dg dc207 43 rfl)⟩)) rfl rfl (rk1 (LOC.st (Nat.le_of_ble_eq_true rfl) rfl) rfl) rfl (fun _ r9 => mo_isWord_ok (Z := Z) (d := e9) (by omega) (by decide)  r9) hf (fun z_18 M_17 he_16 hf => ?_)
            refine ex_if (t := 99) (dg dc207 44 rfl) rfl hf (fun _ hf => ?_) (fun _ hf => ?_)
            · refine ex_pu (ls' := [vR 165, vU]) (st' := [vR 165]) (dg dc207 47 rfl) rfl rfl ?_
              refine ex_ldcT (dg dc207 48 rfl) rfl ?_
              refine ex_cI (vs := [vR 165, vR (E0 + 2 + 2 * 76)]) (st' := []) (F := (mo_isWord 76 M_17)) (Or.inr (Or.inl ⟨rfl, (dg dc207 49 rfl)⟩)) rfl rfl (rk1 (LOC.st (Nat.le_of_ble_eq_true rfl) rfl) rfl) rfl (fun _ r9 => mo_isWord_ok (Z := Z) (d := e9) (by omega) (by decide)  r9) hf (fun z_21 M_20 he_19 hf => ?_)
              refine ex_if (t := 112) (dg dc207 50 rfl) rfl hf (fun _ hf => ?_) (fun _ hf => ?_)
              · refine ex_pu (ls' := [vR 165, vU]) (st' := [vR 165]) (dg dc207 53 rfl) rfl rfl ?_
                refine ex_ldcT (dg dc207 54 rfl) rfl ?_
                refine ex_cI (vs := [vR 165, vR (E0 + 2 + 2 * 54)]) (st' := []) (F := (mo_isWord 54 M_20)) (Or.inr (Or.inl ⟨rfl, (dg dc207 55 rfl)⟩)) rfl rfl (rk1 (LOC.st (Nat.le_of_ble_eq_true rfl) rfl) rfl) rfl (fun _ r9 => mo_isWord_ok (Z := Z) (d := e9) (by omega) (by decide)  r9) hf (fun z_24 M_23 he_22 hf => ?_)
                refine ex_if (t := 126) (dg dc207 56 rfl) rfl hf (fun _ hf => ?_) (fun _ hf => ?_)
                · refine ex_pu (ls' := [vR 165, vU]) (st' := [vI (-1)]) (dg dc207 59 rfl) rfl rfl ?_
                  refine ex_pu (ls' := [vR 165, vI (-1)]) (st' := []) (dg dc207 60 rfl) rfl rfl ?_
                  refine ex_pu (ls' := [vR 165, vI (-1)]) (st' := [vR 165]) (dg dc207 61 rfl) rfl rfl ?_
                  refine ex_pu (ls' := [vR 165, vI (-1)]) (st' := [vI (-1), vR 165]) (dg dc207 62 rfl) rfl rfl ?_
                  refine ex_pu (ls' := [vR 165, vI (-1)]) (st' := [vI 0, vI (-1), vR 165]) (dg dc207 63 rfl) rfl rfl ?_
                  refine ex_cV (vs := [vR 165, vI (-1), vI 0]) (st' := []) (F := (mo_emits (-1) 0 M_23)) (Or.inr (Or.inl ⟨rfl, (dg dc207 64 rfl)⟩)) rfl rfl (rk1 (LOC.st (Nat.le_of_ble_eq_true rfl) rfl) rfl) rfl (fun _ r9 => mo_emits_ok (Z := Z) (d := e9) (by omega)  r9) hf (fun M_26 he_25 hf => ?_)
                  refine ex_pu (ls' := [vR 165, vI (-1)]) (st' := [vI (-1)]) (dg dc207 65 rfl) rfl rfl ?_
                  refine ex_if0 (b := true) (t := 142) (dg dc207 66 rfl) rfl rfl ?_
                  show EX Z _ 207 142 _ _ _ _
                  refine ex_pu (ls' := [vR 165, vI (-1)]) (st' := [vI 0]) (dg dc207 69 rfl) rfl rfl ?_
                  exact ex_ire (dg dc207 70 rfl) rfl hf
                · refine ex_pu (ls' := [vR 165, vU]) (st' := [vI 6]) (dg dc207 57 rfl) rfl rfl ?_
                  refine ex_goto (t := 127) (dg dc207 58 rfl) rfl rfl ?_
                  refine ex_pu (ls' := [vR 165, vI 6]) (st' := []) (dg dc207 60 rfl) rfl rfl ?_
                  refine ex_pu (ls' := [vR 165, vI 6]) (st' := [vR 165]) (dg dc207 61 rfl) rfl rfl ?_
                  refine ex_pu (ls' := [vR 165, vI 6]) (st' := [vI 6, vR 165]) (dg dc207 62 rfl) rfl rfl ?_
                  refine ex_pu (ls' := [vR 165, vI 6]) (st' := [vI 0, vI 6, vR 165]) (dg dc207 63 rfl) rfl rfl ?_
                  refine ex_cV (vs := [vR 165, vI 6, vI 0]) (st' := []) (F := (mo_emits 6 0 M_23)) (Or.inr (Or.inl ⟨rfl, (dg dc207 64 rfl)⟩)) rfl rfl (rk1 (LOC.st (Nat.le_of_ble_eq_true rfl) rfl) rfl) rfl (fun _ r9 => mo_emits_ok (Z := Z) (d := e9) (by omega)  r9) hf (fun M_29 he_28 hf => ?_)
                  refine ex_pu (ls' := [vR 165, vI 6]) (st' := [vI 6]) (dg dc207 65 rfl) rfl rfl ?_
                  refine ex_if0 (b := false) (t := 142) (dg dc207 66 rfl) rfl rfl ?_
                  show EX Z _ 207 138 _ _ _ _
                  refine ex_pu (ls' := [vR 165, vI 6]) (st' := [vI 1]) (dg dc207 67 rfl) rfl rfl ?_
                  refine ex_goto (t := 143) (dg dc207 68 rfl) rfl rfl ?_
                  exact ex_ire (dg dc207 70 rfl) rfl hf
              · refine ex_pu (ls' := [vR 165, vU]) (st' := [vI 5]) (dg dc207 51 rfl) rfl rfl ?_
                refine ex_goto (t := 127) (dg dc207 52 rfl) rfl rfl ?_
                refine ex_pu (ls' := [vR 165, vI 5]) (st' := []) (dg dc207 60 rfl) rfl rfl ?_
                refine ex_pu (ls' := [vR 165, vI 5]) (st' := [vR 165]) (dg dc207 61 rfl) rfl rfl ?_
                refine ex_pu (ls' := [vR 165, vI 5]) (st' := [vI 5, vR 165]) (dg dc207 62 rfl) rfl rfl ?_
                refine ex_pu (ls' := [vR 165, vI 5]) (st' := [vI 0, vI 5, vR 165]) (dg dc207 63 rfl) rfl rfl ?_
                refine ex_cV (vs := [vR 165, vI 5, vI 0]) (st' := []) (F := (mo_emits 5 0 M_20)) (Or.inr (Or.inl ⟨rfl, (dg dc207 64 rfl)⟩)) rfl rfl (rk1 (LOC.st (Nat.le_of_ble_eq_true rfl) rfl) rfl) rfl (fun _ r9 => mo_emits_ok (Z := Z) (d := e9) (by omega)  r9) hf (fun M_32 he_31 hf => ?_)
                refine ex_pu (ls' := [vR 165, vI 5]) (st' := [vI 5]) (dg dc207 65 rfl) rfl rfl ?_
                refine ex_if0 (b := false) (t := 142) (dg dc207 66 rfl) rfl rfl ?_
                show EX Z _ 207 138 _ _ _ _
                refine ex_pu (ls' := [vR 165, vI 5]) (st' := [vI 1]) (dg dc207 67 rfl) rfl rfl ?_
                refine ex_goto (t := 143) (dg dc207 68 rfl) rfl rfl ?_
                exact ex_ire (dg dc207 70 rfl) rfl hf
            · refine ex_pu (ls' := [vR 165, vU]) (st' := [vI 4]) (dg dc207 45 rfl) rfl rfl ?_
              refine ex_goto (t := 127) (dg dc207 46 rfl) rfl rfl ?_
              refine ex_pu (ls' := [vR 165, vI 4]) (st' := []) (dg dc207 60 rfl) rfl rfl ?_
              refine ex_pu (ls' := [vR 165, vI 4]) (st' := [vR 165]) (dg dc207 61 rfl) rfl rfl ?_
              refine ex_pu (ls' := [vR 165, vI 4]) (st' := [vI 4, vR 165]) (dg dc207 62 rfl) rfl rfl ?_
              refine ex_pu (ls' := [vR 165, vI 4]) (st' := [vI 0, vI 4, vR 165]) (dg dc207 63 rfl) rfl rfl ?_
              refine ex_cV (vs := [vR 165, vI 4, vI 0]) (st' := []) (F := (mo_emits 4 0 M_17)) (Or.inr (Or.inl ⟨rfl, (dg dc207 64 rfl)⟩)) rfl rfl (rk1 (LOC.st (Nat.le_of_ble_eq_true rfl) rfl) rfl) rfl (fun _ r9 => mo_emits_ok (Z := Z) (d := e9) (by omega)  r9) hf (fun M_35 he_34 hf => ?_)
              refine ex_pu (ls' := [vR 165, vI 4]) (st' := [vI 4]) (dg dc207 65 rfl) rfl rfl ?_
              refine ex_if0 (b := false) (t := 142) (dg dc207 66 rfl) rfl rfl ?_
              show EX Z _ 207 138 _ _ _ _
              refine ex_pu (ls' := [vR 165, vI 4]) (st' := [vI 1]) (dg dc207 67 rfl) rfl rfl ?_
              refine ex_goto (t := 143) (dg dc207 68 rfl) rfl rfl ?_
              exact ex_ire (dg dc207 70 rfl) rfl hf
          · refine ex_pu (ls' := [vR 165, vU]) (st' := [vI 3]) (dg dc207 39 rfl) rfl rfl ?_
            refine ex_goto (t := 127) (dg dc207 40 rfl) rfl rfl ?_
            refine ex_pu (ls' := [vR 165, vI 3]) (st' := []) (dg dc207 60 rfl) rfl rfl ?_
            refine ex_pu (ls' := [vR 165, vI 3]) (st' := [vR 165]) (dg dc207 61 rfl) rfl rfl ?_
            refine ex_pu (ls' := [vR 165, vI 3]) (st' := [vI 3, vR 165]) (dg dc207 62 rfl) rfl rfl ?_
            refine ex_pu (ls' := [vR 165, vI 3]) (st' := [vI 0, vI 3, vR 165]) (dg dc207 63 rfl) rfl rfl ?_
            refine ex_cV (vs := [vR 165, vI 3, vI 0]) (st' := []) (F := (mo_emits 3 0 M_14)) (Or.inr (Or.inl ⟨rfl, (dg dc207 64 rfl)⟩)) rfl rfl (rk1 (LOC.st (Nat.le_of_ble_eq_true rfl) rfl) rfl) rfl (fun _ r9 => mo_emits_ok (Z := Z) (d := e9) (by omega)  r9) hf (fun M_38 he_37 hf => ?_)
            refine ex_pu (ls' := [vR 165, vI 3]) (st' := [vI 3]) (dg dc207 65 rfl) rfl rfl ?_
            refine ex_if0 (b := false) (t := 142) (dg dc207 66 rfl) rfl rfl ?_
            show EX Z _ 207 138 _ _ _ _
            refine ex_pu (ls' := [vR 165, vI 3]) (st' := [vI 1]) (dg dc207 67 rfl) rfl rfl ?_
            refine ex_goto (t := 143) (dg dc207 68 rfl) rfl rfl ?_
            exact ex_ire (dg dc207 70 rfl) rfl hf
        · refine ex_pu (ls' := [vR 165, vU]) (st' := [vI 2]) (dg dc207 33 rfl) rfl rfl ?_
          refine ex_goto (t := 127) (dg dc207 34 rfl) rfl rfl ?_
          refine ex_pu (ls' := [vR 165, vI 2]) (st' := []) (dg dc207 60 rfl) rfl rfl ?_
          refine ex_pu (ls' := [vR 165, vI 2]) (st' := [vR 165]) (dg dc207 61 rfl) rfl rfl ?_
          refine ex_pu (ls' := [vR 165, vI 2]) (st' := [vI 2, vR 165]) (dg dc207 62 rfl) rfl rfl ?_
          refine ex_pu (ls' := [vR 165, vI 2]) (st' := [vI 0, vI 2, vR 165]) (dg dc207 63 rfl) rfl rfl ?_
          refine ex_cV (vs := [vR 165, vI 2, vI 0]) (st' := []) (F := (mo_emits 2 0 M_11)) (Or.inr (Or.inl ⟨rfl, (dg dc207 64 rfl)⟩)) rfl rfl (rk1 (LOC.st (Nat.le_of_ble_eq_true rfl) rfl) rfl) rfl (fun _ r9 => mo_emits_ok (Z := Z) (d := e9) (by omega)  r9) hf (fun M_41 he_40 hf => ?_)
          refine ex_pu (ls' := [vR 165, vI 2]) (st' := [vI 2]) (dg dc207 65 rfl) rfl rfl ?_
          refine ex_if0 (b := false) (t := 142) (dg dc207 66 rfl) rfl rfl ?_
          show EX Z _ 207 138 _ _ _ _
          refine ex_pu (ls' := [vR 165, vI 2]) (st' := [vI 1]) (dg dc207 67 rfl) rfl rfl ?_
          refine ex_goto (t := 143) (dg dc207 68 rfl) rfl rfl ?_
          exact ex_ire (dg dc207 70 rfl) rfl hf
      · refine ex_pu (ls' := [vR 165, vU]) (st' := [vI 1]) (dg dc207 27 rfl) rfl rfl ?_
        refine ex_goto (t := 127) (dg dc207 28 rfl) rfl rfl ?_
        refine ex_pu (ls' := [vR 165, vI 1]) (st' := []) (dg dc207 60 rfl) rfl rfl ?_
        refine ex_pu (ls' := [vR 165, vI 1]) (st' := [vR 165]) (dg dc207 61 rfl) rfl rfl ?_
        refine ex_pu (ls' := [vR 165, vI 1]) (st' := [vI 1, vR 165]) (dg dc207 62 rfl) rfl rfl ?_
        refine ex_pu (ls' := [vR 165, vI 1]) (st' := [vI 0, vI 1, vR 165]) (dg dc207 63 rfl) rfl rfl ?_
        refine ex_cV (vs := [vR 165, vI 1, vI 0]) (st' := []) (F := (mo_emits 1 0 M_8)) (Or.inr (Or.inl ⟨rfl, (dg dc207 64 rfl)⟩)) rfl rfl (rk1 (LOC.st (Nat.le_of_ble_eq_true rfl) rfl) rfl) rfl (fun _ r9 => mo_emits_ok (Z := Z) (d := e9) (by omega)  r9) hf (fun M_44 he_43 hf => ?_)
        refine ex_pu (ls' := [vR 165, vI 1]) (st' := [vI 1]) (dg dc207 65 rfl) rfl rfl ?_
        refine ex_if0 (b := false) (t := 142) (dg dc207 66 rfl) rfl rfl ?_
        show EX Z _ 207 138 _ _ _ _
        refine ex_pu (ls' := [vR 165, vI 1]) (st' := [vI 1]) (dg dc207 67 rfl) rfl rfl ?_
        refine ex_goto (t := 143) (dg dc207 68 rfl) rfl rfl ?_
        exact ex_ire (dg dc207 70 rfl) rfl hf
    · refine ex_pu (ls' := [vR 165, vU]) (st' := [vI 0]) (dg dc207 21 rfl) rfl rfl ?_
      refine ex_goto (t := 127) (dg dc207 22 rfl) rfl rfl ?_
      refine ex_pu (ls' := [vR 165, vI 0]) (st' := []) (dg dc207 60 rfl) rfl rfl ?_
      refine ex_pu (ls' := [vR 165, vI 0]) (st' := [vR 165]) (dg dc207 61 rfl) rfl rfl ?_
      refine ex_pu (ls' := [vR 165, vI 0]) (st' := [vI 0, vR 165]) (dg dc207 62 rfl) rfl rfl ?_
      refine ex_pu (ls' := [vR 165, vI 0]) (st' := [vI 0, vI 0, vR 165]) (dg dc207 63 rfl) rfl rfl ?_
      refine ex_cV (vs := [vR 165, vI 0, vI 0]) (st' := []) (F := (mo_emits 0 0 M_5)) (Or.inr (Or.inl ⟨rfl, (dg dc207 64 rfl)⟩)) rfl rfl (rk1 (LOC.st (Nat.le_of_ble_eq_true rfl) rfl) rfl) rfl (fun _ r9 => mo_emits_ok (Z := Z) (d := e9) (by omega)  r9) hf (fun M_47 he_46 hf => ?_)
      refine ex_pu (ls' := [vR 165, vI 0]) (st' := [vI 0]) (dg dc207 65 rfl) rfl rfl ?_
      refine ex_if0 (b := false) (t := 142) (dg dc207 66 rfl) rfl rfl ?_
      show EX Z _ 207 138 _ _ _ _
      refine ex_pu (ls' := [vR 165, vI 0]) (st' := [vI 1]) (dg dc207 67 rfl) rfl rfl ?_
      refine ex_goto (t := 143) (dg dc207 68 rfl) rfl rfl ?_
      exact ex_ire (dg dc207 70 rfl) rfl hf
  · refine ex_pu (ls' := [vR 165, vU]) (st' := [vR 165]) (dg dc207 7 rfl) rfl rfl ?_
    refine ex_pu (ls' := [vR 165, vU]) (st' := [vI 0, vR 165]) (dg dc207 8 rfl) rfl rfl ?_
    refine ex_pu (ls' := [vR 165, vU]) (st' := [vI 999, vI 0, vR 165]) (dg dc207 9 rfl) rfl rfl ?_
    refine ex_cI (vs := [vR 165, vI 0, vI 999]) (st' := []) (F := (mo_number 0 999 M_2)) (Or.inr (Or.inl ⟨rfl, (dg dc207 10 rfl)⟩)) rfl rfl (rk1 (LOC.st (Nat.le_of_ble_eq_true rfl) rfl) rfl) rfl (fun _ r9 => mo_number_ok (Z := Z) (d := e9) (by omega)  r9) hf (fun z_51 M_50 he_49 hf => ?_)
    refine ex_pu (ls' := [vR 165, vI z_51]) (st' := []) (dg dc207 11 rfl) rfl rfl ?_
    refine ex_pu (ls' := [vR 165, vI z_51]) (st' := [vR 165]) (dg dc207 12 rfl) rfl rfl ?_
    refine ex_pu (ls' := [vR 165, vI z_51]) (st' := [vI 8, vR 165]) (dg dc207 13 rfl) rfl rfl ?_
    refine ex_pu (ls' := [vR 165, vI z_51]) (st' := [vI z_51, vI 8, vR 165]) (dg dc207 14 rfl) rfl rfl ?_
    refine ex_cV (vs := [vR 165, vI 8, vI z_51]) (st' := []) (F := (mo_emits 8 z_51 M_50)) (Or.inr (Or.inl ⟨rfl, (dg dc207 15 rfl)⟩)) rfl rfl (rk1 (LOC.st (Nat.le_of_ble_eq_true rfl) rfl) rfl) rfl (fun _ r9 => mo_emits_ok (Z := Z) (d := e9) (by omega)  r9) hf (fun M_53 he_52 hf => ?_)
    refine ex_goto (t := 134) (dg dc207 16 rfl) rfl rfl ?_
    refine ex_pu (ls' := [vR 165, vI z_51]) (st' := [vI z_51]) (dg dc207 65 rfl) rfl rfl ?_
    refine ex_if (t := 142) (dg dc207 66 rfl) rfl hf (fun _ hf => ?_) (fun _ hf => ?_)
    · refine ex_pu (ls' := [vR 165, vI z_51]) (st' := [vI 0]) (dg dc207 69 rfl) rfl rfl ?_
      exact ex_ire (dg dc207 70 rfl) rfl hf
    · refine ex_pu (ls' := [vR 165, vI z_51]) (st' := [vI 1]) (dg dc207 67 rfl) rfl rfl ?_
      refine ex_goto (t := 143) (dg dc207 68 rfl) rfl rfl ?_
      exact ex_ire (dg dc207 70 rfl) rfl hf
-- GlassHillModel.readSum
def il208 : List (Nat × Instr × Nat) := [(0, .aload_n 0, 1), (1, .invokevirtual 222, 3), (4, .ifCond .ne 5, 3), (7, .iconst 0, 1), (8, .ireturn, 1), (9, .aload_n 0, 1), (10, .bipush 43, 2), (12, .invokevirtual 225, 3), (15, .ifCond .eq 22, 3), (18, .aload_n 0, 1), (19, .invokevirtual 222, 3), (22, .ifCond .ne 5, 3), (25, .iconst 0, 1), (26, .ireturn, 1), (27, .aload_n 0, 1), (28, .bipush 9, 2), (30, .iconst 0, 1), (31, .invokevirtual 210, 3), (34, .goto (-25), 3), (37, .iconst 1, 1), (38, .ireturn, 1)]
theorem dc208 : dcs (mC 208) il208 := dc_of (by decide +kernel)
def mo_readSum_L9  (K1 : MM → OR) (K2 : MM → OR) : Nat → MM → OR
  | 0, _ => none
  | n + 1, M => (bI (mo_isSign 43 M) fun z_6 M_5 => (bif cmpB .eq z_6 0 then (K1  M_5) else (bI (mo_readPart  M_5) fun z_9 M_8 => (bif cmpB .ne z_9 0 then (bV (mo_emits 9 0 M_8) fun M_11 => (mo_readSum_L9  K1 K2 n  M_11)) else (K2  M_8)))))
set_option maxRecDepth 4000 in
theorem mo_readSum_L9_ok {Z : Nat × (Nat → Int)} {d : Nat} (hd : 6 ≤ d)  {K1 : MM → OR} {K2 : MM → OR} {res : AR × MM} (k1 : ∀ (M : MM) (j0 : AV), K1  M = some res → EX Z d 208 37 [j0] [] M res) (k2 : ∀ (M : MM) (j0 : AV), K2  M = some res → EX Z d 208 25 [j0] [] M res) : ∀ (n : Nat) (M : MM), mo_readSum_L9  K1 K2 n  M = some res → EX Z d 208 9 [vR 165] [] M res := by
  obtain ⟨e9, rfl⟩ : ∃ e9, d = e9 + 1 := ⟨d - 1, by omega⟩
  intro n
  induction n with
  | zero =>
    intro M hf
    unfold mo_readSum_L9 at hf
    cases hf
  | succ n ih =>
    intro M hf
    unfold mo_readSum_L9 at hf
    refine ex_pu (ls' := [vR 165]) (st' := [vR 165]) (dg dc208 5 rfl) rfl rfl ?_
    refine ex_pu (ls' := [vR 165]) (st' := [vI 43, vR 165]) (dg dc208 6 rfl) rfl rfl ?_
    refine ex_cI (vs := [vR 165, vI 43]) (st' := []) (F := (mo_isSign 43 M)) (Or.inr (Or.inl ⟨rfl, (dg dc208 7 rfl)⟩)) rfl rfl (rk1 (LOC.st (Nat.le_of_ble_eq_true rfl) rfl) rfl) rfl (fun _ r9 => mo_isSign_ok (Z := Z) (d := e9) (by omega)  r9) hf (fun z_6 M_5 he_4 hf => ?_)
    refine ex_if (t := 37) (dg dc208 8 rfl) rfl hf (fun _ hf => ?_) (fun _ hf => ?_)
    · exact k1  M_5 _ hf
    · refine ex_pu (ls' := [vR 165]) (st' := [vR 165]) (dg dc208 9 rfl) rfl rfl ?_
      refine ex_cI (vs := [vR 165]) (st' := []) (F := (mo_readPart  M_5)) (Or.inr (Or.inl ⟨rfl, (dg dc208 10 rfl)⟩)) rfl rfl (rk1 (LOC.st (Nat.le_of_ble_eq_true rfl) rfl) rfl) rfl (fun _ r9 => mo_readPart_ok (Z := Z) (d := e9) (by omega)  r9) hf (fun z_9 M_8 he_7 hf => ?_)
      refine ex_if (t := 27) (dg dc208 11 rfl) rfl hf (fun _ hf => ?_) (fun _ hf => ?_)
      · refine ex_pu (ls' := [vR 165]) (st' := [vR 165]) (dg dc208 14 rfl) rfl rfl ?_
        refine ex_pu (ls' := [vR 165]) (st' := [vI 9, vR 165]) (dg dc208 15 rfl) rfl rfl ?_
        refine ex_pu (ls' := [vR 165]) (st' := [vI 0, vI 9, vR 165]) (dg dc208 16 rfl) rfl rfl ?_
        refine ex_cV (vs := [vR 165, vI 9, vI 0]) (st' := []) (F := (mo_emits 9 0 M_8)) (Or.inr (Or.inl ⟨rfl, (dg dc208 17 rfl)⟩)) rfl rfl (rk1 (LOC.st (Nat.le_of_ble_eq_true rfl) rfl) rfl) rfl (fun _ r9 => mo_emits_ok (Z := Z) (d := e9) (by omega)  r9) hf (fun M_11 he_10 hf => ?_)
        refine ex_goto (t := 9) (dg dc208 18 rfl) rfl rfl ?_
        exact ih  M_11 hf
      · exact k2  M_8 _ hf
def mo_readSum  (M : MM) : OR :=
  (bI (mo_readPart  M) fun z_3 M_2 => (bif cmpB .ne z_3 0 then (mo_readSum_L9  (fun M_13 => some (rI 1, M_13)) (fun M_15 => some (rI 0, M_15)) FU  M_2) else some (rI 0, M_2)))
set_option maxRecDepth 4000 in
theorem mo_readSum_ok {Z : Nat × (Nat → Int)} {d : Nat} (hd : 6 ≤ d) {M : MM}  {res : AR × MM} (hf : mo_readSum  M = some res) : EX Z d 208 0 (ent 208 [vR 165]) [] M res := by
  obtain ⟨e9, rfl⟩ : ∃ e9, d = e9 + 1 := ⟨d - 1, by omega⟩
  unfold mo_readSum at hf
  show EX Z _ 208 0 [vR 165] [] M res
  refine ex_pu (ls' := [vR 165]) (st' := [vR 165]) (dg dc208 0 rfl) rfl rfl ?_
  refine ex_cI (vs := [vR 165]) (st' := []) (F := (mo_readPart  M)) (Or.inr (Or.inl ⟨rfl, (dg dc208 1 rfl)⟩)) rfl rfl (rk1 (LOC.st (Nat.le_of_ble_eq_true rfl) rfl) rfl) rfl (fun _ r9 => mo_readPart_ok (Z := Z) (d := e9) (by omega)  r9) hf (fun z_3 M_2 he_1 hf => ?_)
  refine ex_if (t := 9) (dg dc208 2 rfl) rfl hf (fun _ hf => ?_) (fun _ hf => ?_)
  · refine mo_readSum_L9_ok hd  ?_ ?_ FU  M_2 hf
    · intro M_13 j0_14 hf
      refine ex_pu (ls' := [j0_14]) (st' := [vI 1]) (dg dc208 19 rfl) rfl rfl ?_
      exact ex_ire (dg dc208 20 rfl) rfl hf
    · intro M_15 j0_16 hf
      refine ex_pu (ls' := [j0_16]) (st' := [vI 0]) (dg dc208 12 rfl) rfl rfl ?_
      exact ex_ire (dg dc208 13 rfl) rfl hf
  · refine ex_pu (ls' := [vR 165]) (st' := [vI 0]) (dg dc208 3 rfl) rfl rfl ?_
    exact ex_ire (dg dc208 4 rfl) rfl hf
-- GlassHillModel.readAllOf
def il210 : List (Nat × Instr × Nat) := [(0, .aload_n 0, 1), (1, .invokevirtual 236, 3), (4, .ifCond .ne 5, 3), (7, .iconst 0, 1), (8, .ireturn, 1), (9, .aload_n 0, 1), (10, .ldc 244, 2), (12, .invokevirtual 154, 3), (15, .ifCond .eq 22, 3), (18, .aload_n 0, 1), (19, .invokevirtual 236, 3), (22, .ifCond .ne 5, 3), (25, .iconst 0, 1), (26, .ireturn, 1), (27, .aload_n 0, 1), (28, .bipush 13, 2), (30, .iconst 0, 1), (31, .invokevirtual 210, 3), (34, .goto (-25), 3), (37, .iconst 1, 1), (38, .ireturn, 1)]
theorem dc210 : dcs (mC 210) il210 := dc_of (by decide +kernel)
def mo_readAllOf_L9 (R : MM → OR)  (K1 : MM → OR) (K2 : MM → OR) : Nat → MM → OR
  | 0, _ => none
  | n + 1, M => (bI (mo_passes 77 M) fun z_6 M_5 => (bif cmpB .eq z_6 0 then (K1  M_5) else (bI (R  M_5) fun z_9 M_8 => (bif cmpB .ne z_9 0 then (bV (mo_emits 13 0 M_8) fun M_11 => (mo_readAllOf_L9 R K1 K2 n  M_11)) else (K2  M_8)))))
set_option maxRecDepth 4000 in
theorem mo_readAllOf_L9_ok {Z : Nat × (Nat → Int)} {d : Nat} (hd : 6 ≤ d)  {E9 : Nat} (hE : E9 + 1 ≤ d) {R : MM → OR} (hR : ∀ {e : Nat}, E9 ≤ e → ∀ {M : MM} {r : AR × MM}, R  M = some r → EX Z e 209 0 (ent 209 [vR 165]) [] M r) {K1 : MM → OR} {K2 : MM → OR} {res : AR × MM} (k1 : ∀ (M : MM) (j0 : AV), K1  M = some res → EX Z d 210 37 [j0] [] M res) (k2 : ∀ (M : MM) (j0 : AV), K2  M = some res → EX Z d 210 25 [j0] [] M res) : ∀ (n : Nat) (M : MM), mo_readAllOf_L9 R K1 K2 n  M = some res → EX Z d 210 9 [vR 165] [] M res := by
  obtain ⟨e9, rfl⟩ : ∃ e9, d = e9 + 1 := ⟨d - 1, by omega⟩
  intro n
  induction n with
  | zero =>
    intro M hf
    unfold mo_readAllOf_L9 at hf
    cases hf
  | succ n ih =>
    intro M hf
    unfold mo_readAllOf_L9 at hf
    refine ex_pu (ls' := [vR 165]) (st' := [vR 165]) (dg dc210 5 rfl) rfl rfl ?_
    refine ex_ldcT (dg dc210 6 rfl) rfl ?_
    refine ex_cI (vs := [vR 165, vR (E0 + 2 + 2 * 77)]) (st' := []) (F := (mo_passes 77 M)) (Or.inr (Or.inl ⟨rfl, (dg dc210 7 rfl)⟩)) rfl rfl (rk1 (LOC.st (Nat.le_of_ble_eq_true rfl) rfl) rfl) rfl (fun _ r9 => mo_passes_ok (Z := Z) (d := e9) (by omega) (by decide)  r9) hf (fun z_6 M_5 he_4 hf => ?_)
    refine ex_if (t := 37) (dg dc210 8 rfl) rfl hf (fun _ hf => ?_) (fun _ hf => ?_)
    · exact k1  M_5 _ hf
    · refine ex_pu (ls' := [vR 165]) (st' := [vR 165]) (dg dc210 9 rfl) rfl rfl ?_
      refine ex_cI (vs := [vR 165]) (st' := []) (F := (R  M_5)) (Or.inr (Or.inl ⟨rfl, (dg dc210 10 rfl)⟩)) rfl rfl (rk1 (LOC.st (Nat.le_of_ble_eq_true rfl) rfl) rfl) rfl (fun _ r9 => hR (by omega) r9) hf (fun z_9 M_8 he_7 hf => ?_)
      refine ex_if (t := 27) (dg dc210 11 rfl) rfl hf (fun _ hf => ?_) (fun _ hf => ?_)
      · refine ex_pu (ls' := [vR 165]) (st' := [vR 165]) (dg dc210 14 rfl) rfl rfl ?_
        refine ex_pu (ls' := [vR 165]) (st' := [vI 13, vR 165]) (dg dc210 15 rfl) rfl rfl ?_
        refine ex_pu (ls' := [vR 165]) (st' := [vI 0, vI 13, vR 165]) (dg dc210 16 rfl) rfl rfl ?_
        refine ex_cV (vs := [vR 165, vI 13, vI 0]) (st' := []) (F := (mo_emits 13 0 M_8)) (Or.inr (Or.inl ⟨rfl, (dg dc210 17 rfl)⟩)) rfl rfl (rk1 (LOC.st (Nat.le_of_ble_eq_true rfl) rfl) rfl) rfl (fun _ r9 => mo_emits_ok (Z := Z) (d := e9) (by omega)  r9) hf (fun M_11 he_10 hf => ?_)
        refine ex_goto (t := 9) (dg dc210 18 rfl) rfl rfl ?_
        exact ih  M_11 hf
      · exact k2  M_8 _ hf
def mo_readAllOf (R : MM → OR)  (M : MM) : OR :=
  (bI (R  M) fun z_3 M_2 => (bif cmpB .ne z_3 0 then (mo_readAllOf_L9 R (fun M_13 => some (rI 1, M_13)) (fun M_15 => some (rI 0, M_15)) FU  M_2) else some (rI 0, M_2)))
set_option maxRecDepth 4000 in
theorem mo_readAllOf_ok {Z : Nat × (Nat → Int)} {d : Nat} (hd : 6 ≤ d) {E9 : Nat} (hE : E9 + 1 ≤ d) {R : MM → OR} (hR : ∀ {e : Nat}, E9 ≤ e → ∀ {M : MM} {r : AR × MM}, R  M = some r → EX Z e 209 0 (ent 209 [vR 165]) [] M r) {M : MM}  {res : AR × MM} (hf : mo_readAllOf R M = some res) : EX Z d 210 0 (ent 210 [vR 165]) [] M res := by
  obtain ⟨e9, rfl⟩ : ∃ e9, d = e9 + 1 := ⟨d - 1, by omega⟩
  unfold mo_readAllOf at hf
  show EX Z _ 210 0 [vR 165] [] M res
  refine ex_pu (ls' := [vR 165]) (st' := [vR 165]) (dg dc210 0 rfl) rfl rfl ?_
  refine ex_cI (vs := [vR 165]) (st' := []) (F := (R  M)) (Or.inr (Or.inl ⟨rfl, (dg dc210 1 rfl)⟩)) rfl rfl (rk1 (LOC.st (Nat.le_of_ble_eq_true rfl) rfl) rfl) rfl (fun _ r9 => hR (by omega) r9) hf (fun z_3 M_2 he_1 hf => ?_)
  refine ex_if (t := 9) (dg dc210 2 rfl) rfl hf (fun _ hf => ?_) (fun _ hf => ?_)
  · refine mo_readAllOf_L9_ok hd hE hR ?_ ?_ FU  M_2 hf
    · intro M_13 j0_14 hf
      refine ex_pu (ls' := [j0_14]) (st' := [vI 1]) (dg dc210 19 rfl) rfl rfl ?_
      exact ex_ire (dg dc210 20 rfl) rfl hf
    · intro M_15 j0_16 hf
      refine ex_pu (ls' := [j0_16]) (st' := [vI 0]) (dg dc210 12 rfl) rfl rfl ?_
      exact ex_ire (dg dc210 13 rfl) rfl hf
  · refine ex_pu (ls' := [vR 165]) (st' := [vI 0]) (dg dc210 3 rfl) rfl rfl ?_
    exact ex_ire (dg dc210 4 rfl) rfl hf
-- GlassHillModel.readCond
def il211 : List (Nat × Instr × Nat) := [(0, .aload_n 0, 1), (1, .invokevirtual 246, 3), (4, .ifCond .ne 5, 3), (7, .iconst 0, 1), (8, .ireturn, 1), (9, .aload_n 0, 1), (10, .ldc 249, 2), (12, .invokevirtual 154, 3), (15, .ifCond .eq 22, 3), (18, .aload_n 0, 1), (19, .invokevirtual 246, 3), (22, .ifCond .ne 5, 3), (25, .iconst 0, 1), (26, .ireturn, 1), (27, .aload_n 0, 1), (28, .bipush 14, 2), (30, .iconst 0, 1), (31, .invokevirtual 210, 3), (34, .goto (-25), 3), (37, .iconst 1, 1), (38, .ireturn, 1)]
theorem dc211 : dcs (mC 211) il211 := dc_of (by decide +kernel)
def mo_readCond_L9 (R : MM → OR)  (K1 : MM → OR) (K2 : MM → OR) : Nat → MM → OR
  | 0, _ => none
  | n + 1, M => (bI (mo_passes 78 M) fun z_6 M_5 => (bif cmpB .eq z_6 0 then (K1  M_5) else (bI (mo_readAllOf R M_5) fun z_9 M_8 => (bif cmpB .ne z_9 0 then (bV (mo_emits 14 0 M_8) fun M_11 => (mo_readCond_L9 R K1 K2 n  M_11)) else (K2  M_8)))))
set_option maxRecDepth 4000 in
theorem mo_readCond_L9_ok {Z : Nat × (Nat → Int)} {d : Nat} (hd : 7 ≤ d)  {E9 : Nat} (hE : E9 + 2 ≤ d) {R : MM → OR} (hR : ∀ {e : Nat}, E9 ≤ e → ∀ {M : MM} {r : AR × MM}, R  M = some r → EX Z e 209 0 (ent 209 [vR 165]) [] M r) {K1 : MM → OR} {K2 : MM → OR} {res : AR × MM} (k1 : ∀ (M : MM) (j0 : AV), K1  M = some res → EX Z d 211 37 [j0] [] M res) (k2 : ∀ (M : MM) (j0 : AV), K2  M = some res → EX Z d 211 25 [j0] [] M res) : ∀ (n : Nat) (M : MM), mo_readCond_L9 R K1 K2 n  M = some res → EX Z d 211 9 [vR 165] [] M res := by
  obtain ⟨e9, rfl⟩ : ∃ e9, d = e9 + 1 := ⟨d - 1, by omega⟩
  intro n
  induction n with
  | zero =>
    intro M hf
    unfold mo_readCond_L9 at hf
    cases hf
  | succ n ih =>
    intro M hf
    unfold mo_readCond_L9 at hf
    refine ex_pu (ls' := [vR 165]) (st' := [vR 165]) (dg dc211 5 rfl) rfl rfl ?_
    refine ex_ldcT (dg dc211 6 rfl) rfl ?_
    refine ex_cI (vs := [vR 165, vR (E0 + 2 + 2 * 78)]) (st' := []) (F := (mo_passes 78 M)) (Or.inr (Or.inl ⟨rfl, (dg dc211 7 rfl)⟩)) rfl rfl (rk1 (LOC.st (Nat.le_of_ble_eq_true rfl) rfl) rfl) rfl (fun _ r9 => mo_passes_ok (Z := Z) (d := e9) (by omega) (by decide)  r9) hf (fun z_6 M_5 he_4 hf => ?_)
    refine ex_if (t := 37) (dg dc211 8 rfl) rfl hf (fun _ hf => ?_) (fun _ hf => ?_)
    · exact k1  M_5 _ hf
    · refine ex_pu (ls' := [vR 165]) (st' := [vR 165]) (dg dc211 9 rfl) rfl rfl ?_
      refine ex_cI (vs := [vR 165]) (st' := []) (F := (mo_readAllOf R M_5)) (Or.inr (Or.inl ⟨rfl, (dg dc211 10 rfl)⟩)) rfl rfl (rk1 (LOC.st (Nat.le_of_ble_eq_true rfl) rfl) rfl) rfl (fun _ r9 => mo_readAllOf_ok (Z := Z) (d := e9) (by omega) (by omega) hR  r9) hf (fun z_9 M_8 he_7 hf => ?_)
      refine ex_if (t := 27) (dg dc211 11 rfl) rfl hf (fun _ hf => ?_) (fun _ hf => ?_)
      · refine ex_pu (ls' := [vR 165]) (st' := [vR 165]) (dg dc211 14 rfl) rfl rfl ?_
        refine ex_pu (ls' := [vR 165]) (st' := [vI 14, vR 165]) (dg dc211 15 rfl) rfl rfl ?_
        refine ex_pu (ls' := [vR 165]) (st' := [vI 0, vI 14, vR 165]) (dg dc211 16 rfl) rfl rfl ?_
        refine ex_cV (vs := [vR 165, vI 14, vI 0]) (st' := []) (F := (mo_emits 14 0 M_8)) (Or.inr (Or.inl ⟨rfl, (dg dc211 17 rfl)⟩)) rfl rfl (rk1 (LOC.st (Nat.le_of_ble_eq_true rfl) rfl) rfl) rfl (fun _ r9 => mo_emits_ok (Z := Z) (d := e9) (by omega)  r9) hf (fun M_11 he_10 hf => ?_)
        refine ex_goto (t := 9) (dg dc211 18 rfl) rfl rfl ?_
        exact ih  M_11 hf
      · exact k2  M_8 _ hf
def mo_readCond (R : MM → OR)  (M : MM) : OR :=
  (bI (mo_readAllOf R M) fun z_3 M_2 => (bif cmpB .ne z_3 0 then (mo_readCond_L9 R (fun M_13 => some (rI 1, M_13)) (fun M_15 => some (rI 0, M_15)) FU  M_2) else some (rI 0, M_2)))
set_option maxRecDepth 4000 in
theorem mo_readCond_ok {Z : Nat × (Nat → Int)} {d : Nat} (hd : 7 ≤ d) {E9 : Nat} (hE : E9 + 2 ≤ d) {R : MM → OR} (hR : ∀ {e : Nat}, E9 ≤ e → ∀ {M : MM} {r : AR × MM}, R  M = some r → EX Z e 209 0 (ent 209 [vR 165]) [] M r) {M : MM}  {res : AR × MM} (hf : mo_readCond R M = some res) : EX Z d 211 0 (ent 211 [vR 165]) [] M res := by
  obtain ⟨e9, rfl⟩ : ∃ e9, d = e9 + 1 := ⟨d - 1, by omega⟩
  unfold mo_readCond at hf
  show EX Z _ 211 0 [vR 165] [] M res
  refine ex_pu (ls' := [vR 165]) (st' := [vR 165]) (dg dc211 0 rfl) rfl rfl ?_
  refine ex_cI (vs := [vR 165]) (st' := []) (F := (mo_readAllOf R M)) (Or.inr (Or.inl ⟨rfl, (dg dc211 1 rfl)⟩)) rfl rfl (rk1 (LOC.st (Nat.le_of_ble_eq_true rfl) rfl) rfl) rfl (fun _ r9 => mo_readAllOf_ok (Z := Z) (d := e9) (by omega) (by omega) hR  r9) hf (fun z_3 M_2 he_1 hf => ?_)
  refine ex_if (t := 9) (dg dc211 2 rfl) rfl hf (fun _ hf => ?_) (fun _ hf => ?_)
  · refine mo_readCond_L9_ok hd hE hR ?_ ?_ FU  M_2 hf
    · intro M_13 j0_14 hf
      refine ex_pu (ls' := [j0_14]) (st' := [vI 1]) (dg dc211 19 rfl) rfl rfl ?_
      exact ex_ire (dg dc211 20 rfl) rfl hf
    · intro M_15 j0_16 hf
      refine ex_pu (ls' := [j0_16]) (st' := [vI 0]) (dg dc211 12 rfl) rfl rfl ?_
      exact ex_ire (dg dc211 13 rfl) rfl hf
  · refine ex_pu (ls' := [vR 165]) (st' := [vI 0]) (dg dc211 3 rfl) rfl rfl ?_
    exact ex_ire (dg dc211 4 rfl) rfl hf
-- GlassHillModel.field
def il217 : List (Nat × Instr × Nat) := [(0, .lload_n 0, 1), (1, .iload_n 2, 1), (2, .lshr, 1), (3, .l2i, 1), (4, .iconst 1, 1), (5, .iload_n 3, 1), (6, .ishl, 1), (7, .iconst 1, 1), (8, .isub, 1), (9, .iand, 1), (10, .ireturn, 1)]
theorem dc217 : dcs (mC 217) il217 := dc_of (by decide +kernel)
def mo_field (v0 : Int) (v2 : Int) (v3 : Int) (M : MM) : OR :=
  some (rI (iAnd (lShr v0 v2) ((iShl 1 v3) - 1)), M)
set_option maxRecDepth 4000 in
theorem mo_field_ok {Z : Nat × (Nat → Int)} {d : Nat} (hd : 0 ≤ d) {M : MM}  {v0 v2 v3 : Int} {res : AR × MM} (hf : mo_field v0 v2 v3 M = some res) : EX Z d 217 0 (ent 217 [vJ v0, vI v2, vI v3]) [] M res := by
  unfold mo_field at hf
  show EX Z _ 217 0 [vJ v0, vU, vI v2, vI v3] [] M res
  refine ex_pu (ls' := [vJ v0, vU, vI v2, vI v3]) (st' := [vJ v0]) (dg dc217 0 rfl) rfl rfl ?_
  refine ex_pu (ls' := [vJ v0, vU, vI v2, vI v3]) (st' := [vI v2, vJ v0]) (dg dc217 1 rfl) rfl rfl ?_
  refine ex_pu (ls' := [vJ v0, vU, vI v2, vI v3]) (st' := [vJ (lShr v0 v2)]) (dg dc217 2 rfl) rfl rfl ?_
  refine ex_pu (ls' := [vJ v0, vU, vI v2, vI v3]) (st' := [vI (lShr v0 v2)]) (dg dc217 3 rfl) rfl rfl ?_
  refine ex_pu (ls' := [vJ v0, vU, vI v2, vI v3]) (st' := [vI 1, vI (lShr v0 v2)]) (dg dc217 4 rfl) rfl rfl ?_
  refine ex_pu (ls' := [vJ v0, vU, vI v2, vI v3]) (st' := [vI v3, vI 1, vI (lShr v0 v2)]) (dg dc217 5 rfl) rfl rfl ?_
  refine ex_pu (ls' := [vJ v0, vU, vI v2, vI v3]) (st' := [vI (iShl 1 v3), vI (lShr v0 v2)]) (dg dc217 6 rfl) rfl rfl ?_
  refine ex_pu (ls' := [vJ v0, vU, vI v2, vI v3]) (st' := [vI 1, vI (iShl 1 v3), vI (lShr v0 v2)]) (dg dc217 7 rfl) rfl rfl ?_
  refine ex_pu (ls' := [vJ v0, vU, vI v2, vI v3]) (st' := [vI ((iShl 1 v3) - 1), vI (lShr v0 v2)]) (dg dc217 8 rfl) rfl rfl ?_
  refine ex_pu (ls' := [vJ v0, vU, vI v2, vI v3]) (st' := [vI (iAnd (lShr v0 v2) ((iShl 1 v3) - 1))]) (dg dc217 9 rfl) rfl rfl ?_
  exact ex_ire (dg dc217 10 rfl) rfl hf
-- GlassHillModel.hoursOf
def il218 : List (Nat × Instr × Nat) := [(0, .lload_n 0, 1), (1, .iconst 0, 1), (2, .iconst 5, 1), (3, .invokestatic 277, 3), (6, .ireturn, 1)]
theorem dc218 : dcs (mC 218) il218 := dc_of (by decide +kernel)
def mo_hoursOf (v0 : Int) (M : MM) : OR :=
  (bI (mo_field v0 0 5 M) fun z_3 M_2 => some (rI z_3, M_2))
set_option maxRecDepth 4000 in
theorem mo_hoursOf_ok {Z : Nat × (Nat → Int)} {d : Nat} (hd : 1 ≤ d) {M : MM}  {v0 : Int} {res : AR × MM} (hf : mo_hoursOf v0 M = some res) : EX Z d 218 0 (ent 218 [vJ v0]) [] M res := by
  obtain ⟨e9, rfl⟩ : ∃ e9, d = e9 + 1 := ⟨d - 1, by omega⟩
  unfold mo_hoursOf at hf
  show EX Z _ 218 0 [vJ v0, vU] [] M res
  refine ex_pu (ls' := [vJ v0, vU]) (st' := [vJ v0]) (dg dc218 0 rfl) rfl rfl ?_
  refine ex_pu (ls' := [vJ v0, vU]) (st' := [vI 0, vJ v0]) (dg dc218 1 rfl) rfl rfl ?_
  refine ex_pu (ls' := [vJ v0, vU]) (st' := [vI 5, vI 0, vJ v0]) (dg dc218 2 rfl) rfl rfl ?_
  refine ex_cI (vs := [vJ v0, vI 0, vI 5]) (st' := []) (F := (mo_field v0 0 5 M)) (Or.inl ⟨rfl, (dg dc218 3 rfl)⟩) rfl rfl (Or.inl rfl) rfl (fun _ r9 => mo_field_ok (Z := Z) (d := e9) (by omega)  r9) hf (fun z_3 M_2 he_1 hf => ?_)
  exact ex_ire (dg dc218 4 rfl) rfl hf
-- GlassHillModel.placeOf
def il219 : List (Nat × Instr × Nat) := [(0, .lload_n 0, 1), (1, .iconst 5, 1), (2, .iconst 4, 1), (3, .invokestatic 277, 3), (6, .ireturn, 1)]
theorem dc219 : dcs (mC 219) il219 := dc_of (by decide +kernel)
def mo_placeOf (v0 : Int) (M : MM) : OR :=
  (bI (mo_field v0 5 4 M) fun z_3 M_2 => some (rI z_3, M_2))
set_option maxRecDepth 4000 in
theorem mo_placeOf_ok {Z : Nat × (Nat → Int)} {d : Nat} (hd : 1 ≤ d) {M : MM}  {v0 : Int} {res : AR × MM} (hf : mo_placeOf v0 M = some res) : EX Z d 219 0 (ent 219 [vJ v0]) [] M res := by
  obtain ⟨e9, rfl⟩ : ∃ e9, d = e9 + 1 := ⟨d - 1, by omega⟩
  unfold mo_placeOf at hf
  show EX Z _ 219 0 [vJ v0, vU] [] M res
  refine ex_pu (ls' := [vJ v0, vU]) (st' := [vJ v0]) (dg dc219 0 rfl) rfl rfl ?_
  refine ex_pu (ls' := [vJ v0, vU]) (st' := [vI 5, vJ v0]) (dg dc219 1 rfl) rfl rfl ?_
  refine ex_pu (ls' := [vJ v0, vU]) (st' := [vI 4, vI 5, vJ v0]) (dg dc219 2 rfl) rfl rfl ?_
  refine ex_cI (vs := [vJ v0, vI 5, vI 4]) (st' := []) (F := (mo_field v0 5 4 M)) (Or.inl ⟨rfl, (dg dc219 3 rfl)⟩) rfl rfl (Or.inl rfl) rfl (fun _ r9 => mo_field_ok (Z := Z) (d := e9) (by omega)  r9) hf (fun z_3 M_2 he_1 hf => ?_)
  exact ex_ire (dg dc219 4 rfl) rfl hf
