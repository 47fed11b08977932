/-! ===== METHODS 6 ===== -/
-- GlassHillModel.pays
def il245 : List (Nat × Instr × Nat) := [(0, .lload_n 1, 1), (1, .invokestatic 307, 3), (4, .istore 4, 2), (6, .aload_n 0, 1), (7, .iload 4, 2), (9, .invokevirtual 159, 3), (12, .ifCond .eq 34, 3), (15, .lload_n 1, 1), (16, .invokestatic 317, 3), (19, .iload 4, 2), (21, .invokestatic 323, 3), (24, .ifCond .ne 22, 3), (27, .lload_n 1, 1), (28, .iload_n 3, 1), (29, .invokestatic 313, 3), (32, .iconst 2, 1), (33, .if_icmp .ne 13, 3), (36, .aload_n 0, 1), (37, .iload_n 3, 1), (38, .iload 4, 2), (40, .invokevirtual 387, 3), (43, .ifCond .ne 7, 3), (46, .ldc2_w 281, 3), (49, .lreturn, 1), (50, .lload_n 1, 1), (51, .bipush 34, 2), (53, .iload 4, 2), (55, .iadd, 1), (56, .iconst 1, 1), (57, .iconst 1, 1), (58, .invokestatic 283, 3), (61, .lstore 5, 2), (63, .aload_n 0, 1), (64, .iload 4, 2), (66, .iconst 5, 1), (67, .invokevirtual 72, 3), (70, .iconst 1, 1), (71, .if_icmp .ne 12, 3), (74, .lload 5, 2), (76, .iload_n 3, 1), (77, .iconst 3, 1), (78, .invokestatic 293, 3), (81, .lstore 5, 2), (83, .aload_n 0, 1), (84, .iload 4, 2), (86, .bipush 6, 2), (88, .invokevirtual 72, 3), (91, .istore 7, 2), (93, .iload 7, 2), (95, .ifCond .ge 6, 3), (98, .lload 5, 2), (100, .lreturn, 1), (101, .lload 5, 2), (103, .iload 7, 2), (105, .aload_n 0, 1), (106, .lload 5, 2), (108, .iconst 2, 1), (109, .invokevirtual 358, 3), (112, .invokestatic 361, 3), (115, .iconst 4, 1), (116, .if_icmp .ge 7, 3), (119, .iconst 2, 1), (120, .goto 4, 3), (123, .iconst 0, 1), (124, .invokestatic 293, 3), (127, .lreturn, 1)]
theorem dc245 : dcs (mC 245) il245 := dc_of (by decide +kernel)
def mo_pays_J83   (v4 v5 : Int) (M : MM) : OR :=
  (bI (mo_of v4 6 M) fun z_27 M_26 => (bif cmpB .ge z_27 0 then (bI (mo_thingsIn v5 2 M_26) fun z_30 M_29 => (bI (jdk_bitCount z_30 M_29) fun z_33 M_32 => (bif cmpB .ge z_33 4 then (bJ (mo_withState v5 z_27 0 M_32) fun z_36 M_35 => some (rJ z_36, M_35)) else (bJ (mo_withState v5 z_27 2 M_32) fun z_39 M_38 => some (rJ z_39, M_38))))) else some (rJ v5, M_26)))
set_option maxRecDepth 4000 in
theorem mo_pays_J83_ok {Z : Nat × (Nat → Int)} {d : Nat} (hd : 3 ≤ d)   {res : AR × MM}  : ∀ (v4 v5 : Int) (M : MM) (j1 j2 j3 j7 : AV), mo_pays_J83   v4 v5 M = some res → EX Z d 245 83 [vR 165, j1, j2, j3, vI v4, vJ v5, vU, j7] [] M res := by
  obtain ⟨e9, rfl⟩ : ∃ e9, d = e9 + 1 := ⟨d - 1, by omega⟩
  intro v4 v5 M j1 j2 j3 j7 hf
  unfold mo_pays_J83 at hf
  refine ex_pu (ls' := [vR 165, j1, j2, j3, vI v4, vJ v5, vU, j7]) (st' := [vR 165]) (dg dc245 43 rfl) rfl rfl ?_
  refine ex_pu (ls' := [vR 165, j1, j2, j3, vI v4, vJ v5, vU, j7]) (st' := [vI v4, vR 165]) (dg dc245 44 rfl) rfl rfl ?_
  refine ex_pu (ls' := [vR 165, j1, j2, j3, vI v4, vJ v5, vU, j7]) (st' := [vI 6, vI v4, vR 165]) (dg dc245 45 rfl) rfl rfl ?_
  refine ex_cI (vs := [vR 165, vI v4, vI 6]) (st' := []) (F := (mo_of v4 6 M)) (Or.inr (Or.inl ⟨rfl, (dg dc245 46 rfl)⟩)) rfl rfl (rk1 (LOC.st (Nat.le_of_ble_eq_true rfl) rfl) rfl) rfl (fun _ r9 => mo_of_ok (Z := Z) (d := e9) (by omega)  r9) hf (fun z_27 M_26 he_25 hf => ?_)
  refine ex_pu (ls' := [vR 165, j1, j2, j3, vI v4, vJ v5, vU, vI z_27]) (st' := []) (dg dc245 47 rfl) rfl rfl ?_
  refine ex_pu (ls' := [vR 165, j1, j2, j3, vI v4, vJ v5, vU, vI z_27]) (st' := [vI z_27]) (dg dc245 48 rfl) rfl rfl ?_
  refine ex_if (t := 101) (dg dc245 49 rfl) rfl hf (fun _ hf => ?_) (fun _ hf => ?_)
  · refine ex_pu (ls' := [vR 165, j1, j2, j3, vI v4, vJ v5, vU, vI z_27]) (st' := [vJ v5]) (dg dc245 52 rfl) rfl rfl ?_
    refine ex_pu (ls' := [vR 165, j1, j2, j3, vI v4, vJ v5, vU, vI z_27]) (st' := [vI z_27, vJ v5]) (dg dc245 53 rfl) rfl rfl ?_
    refine ex_pu (ls' := [vR 165, j1, j2, j3, vI v4, vJ v5, vU, vI z_27]) (st' := [vR 165, vI z_27, vJ v5]) (dg dc245 54 rfl) rfl rfl ?_
    refine ex_pu (ls' := [vR 165, j1, j2, j3, vI v4, vJ v5, vU, vI z_27]) (st' := [vJ v5, vR 165, vI z_27, vJ v5]) (dg dc245 55 rfl) rfl rfl ?_
    refine ex_pu (ls' := [vR 165, j1, j2, j3, vI v4, vJ v5, vU, vI z_27]) (st' := [vI 2, vJ v5, vR 165, vI z_27, vJ v5]) (dg dc245 56 rfl) rfl rfl ?_
    refine ex_cI (vs := [vR 165, vJ v5, vI 2]) (st' := [vI z_27, vJ v5]) (F := (mo_thingsIn v5 2 M_26)) (Or.inr (Or.inl ⟨rfl, (dg dc245 57 rfl)⟩)) rfl rfl (rk1 (LOC.st (Nat.le_of_ble_eq_true rfl) rfl) rfl) rfl (fun _ r9 => mo_thingsIn_ok (Z := Z) (d := e9) (by omega)  r9) hf (fun z_30 M_29 he_28 hf => ?_)
    refine ex_cI (vs := [vI z_30]) (st' := [vI z_27, vJ v5]) (F := (jdk_bitCount z_30 M_29)) (Or.inl ⟨rfl, (dg dc245 58 rfl)⟩) rfl rfl (Or.inl rfl) rfl (fun _ r9 => jdk_bitCount_ok (Z := Z) (d := e9) (by omega)  r9) hf (fun z_33 M_32 he_31 hf => ?_)
    refine ex_pu (ls' := [vR 165, j1, j2, j3, vI v4, vJ v5, vU, vI z_27]) (st' := [vI 4, vI z_33, vI z_27, vJ v5]) (dg dc245 59 rfl) rfl rfl ?_
    refine ex_icmp (t := 123) (dg dc245 60 rfl) rfl hf (fun _ hf => ?_) (fun _ hf => ?_)
    · refine ex_pu (ls' := [vR 165, j1, j2, j3, vI v4, vJ v5, vU, vI z_27]) (st' := [vI 0, vI z_27, vJ v5]) (dg dc245 63 rfl) rfl rfl ?_
      refine ex_cJ (vs := [vJ v5, vI z_27, vI 0]) (st' := []) (F := (mo_withState v5 z_27 0 M_32)) (Or.inl ⟨rfl, (dg dc245 64 rfl)⟩) rfl rfl (Or.inl rfl) rfl (fun _ r9 => mo_withState_ok (Z := Z) (d := e9) (by omega)  r9) hf (fun z_36 M_35 he_34 hf => ?_)
      exact ex_jre (dg dc245 65 rfl) rfl hf
    · refine ex_pu (ls' := [vR 165, j1, j2, j3, vI v4, vJ v5, vU, vI z_27]) (st' := [vI 2, vI z_27, vJ v5]) (dg dc245 61 rfl) rfl rfl ?_
      refine ex_goto (t := 124) (dg dc245 62 rfl) rfl rfl ?_
      refine ex_cJ (vs := [vJ v5, vI z_27, vI 2]) (st' := []) (F := (mo_withState v5 z_27 2 M_32)) (Or.inl ⟨rfl, (dg dc245 64 rfl)⟩) rfl rfl (Or.inl rfl) rfl (fun _ r9 => mo_withState_ok (Z := Z) (d := e9) (by omega)  r9) hf (fun z_39 M_38 he_37 hf => ?_)
      exact ex_jre (dg dc245 65 rfl) rfl hf
  · refine ex_pu (ls' := [vR 165, j1, j2, j3, vI v4, vJ v5, vU, vI z_27]) (st' := [vJ v5]) (dg dc245 50 rfl) rfl rfl ?_
    exact ex_jre (dg dc245 51 rfl) rfl hf
def mo_pays (v1 : Int) (v3 : Int) (M : MM) : OR :=
  (bI (mo_placeOf v1 M) fun z_3 M_2 => (bI (mo_isKeeper z_3 M_2) fun z_6 M_5 => (bif cmpB .eq z_6 0 then some (rJ (-1), M_5) else (bI (mo_passedIn v1 M_5) fun z_9 M_8 => (bI (mo_has z_9 z_3 M_8) fun z_12 M_11 => (bif cmpB .ne z_12 0 then some (rJ (-1), M_11) else (bI (mo_stateOf v1 v3 M_11) fun z_15 M_14 => (bif cmpB .ne z_15 2 then some (rJ (-1), M_14) else (bI (mo_fitsKeeper v3 z_3 M_14) fun z_18 M_17 => (bif cmpB .ne z_18 0 then (bJ (mo_with v1 (34 + z_3) 1 1 M_17) fun z_21 M_20 => (bI (mo_of z_3 5 M_20) fun z_24 M_23 => (bif cmpB .ne z_24 1 then (mo_pays_J83   z_3 z_21 M_23) else (bJ (mo_withState z_21 v3 3 M_23) fun z_42 M_41 => (mo_pays_J83   z_3 z_42 M_41))))) else some (rJ (-1), M_17)))))))))))
set_option maxRecDepth 4000 in
theorem mo_pays_ok {Z : Nat × (Nat → Int)} {d : Nat} (hd : 3 ≤ d) {M : MM}  {v1 v3 : Int} {res : AR × MM} (hf : mo_pays v1 v3 M = some res) : EX Z d 245 0 (ent 245 [vR 165, vJ v1, vI v3]) [] M res := by
  obtain ⟨e9, rfl⟩ : ∃ e9, d = e9 + 1 := ⟨d - 1, by omega⟩
  unfold mo_pays at hf
  show EX Z _ 245 0 [vR 165, vJ v1, vU, vI v3, vU, vU, vU, vU] [] M res
  refine ex_pu (ls' := [vR 165, vJ v1, vU, vI v3, vU, vU, vU, vU]) (st' := [vJ v1]) (dg dc245 0 rfl) rfl rfl ?_
  refine ex_cI (vs := [vJ v1]) (st' := []) (F := (mo_placeOf v1 M)) (Or.inl ⟨rfl, (dg dc245 1 rfl)⟩) rfl rfl (Or.inl rfl) rfl (fun _ r9 => mo_placeOf_ok (Z := Z) (d := e9) (by omega)  r9) hf (fun z_3 M_2 he_1 hf => ?_)
  refine ex_pu (ls' := [vR 165, vJ v1, vU, vI v3, vI z_3, vU, vU, vU]) (st' := []) (dg dc245 2 rfl) rfl rfl ?_
  refine ex_pu (ls' := [vR 165, vJ v1, vU, vI v3, vI z_3, vU, vU, vU]) (st' := [vR 165]) (dg dc245 3 rfl) rfl rfl ?_
  refine ex_pu (ls' := [vR 165, vJ v1, vU, vI v3, vI z_3, vU, vU, vU]) (st' := [vI z_3, vR 165]) (dg dc245 4 rfl) rfl rfl ?_
  refine ex_cI (vs := [vR 165, vI z_3]) (st' := []) (F := (mo_isKeeper z_3 M_2)) (Or.inr (Or.inl ⟨rfl, (dg dc245 5 rfl)⟩)) rfl rfl (rk1 (LOC.st (Nat.le_of_ble_eq_true rfl) rfl) rfl) rfl (fun _ r9 => mo_isKeeper_ok (Z := Z) (d := e9) (by omega)  r9) hf (fun z_6 M_5 he_4 hf => ?_)
  refine ex_if (t := 46) (dg dc245 6 rfl) rfl hf (fun _ hf => ?_) (fun _ hf => ?_)
  · refine ex_ldc2 (dg dc245 22 rfl) rfl ?_
    exact ex_jre (dg dc245 23 rfl) rfl hf
  · refine ex_pu (ls' := [vR 165, vJ v1, vU, vI v3, vI z_3, vU, vU, vU]) (st' := [vJ v1]) (dg dc245 7 rfl) rfl rfl ?_
    refine ex_cI (vs := [vJ v1]) (st' := []) (F := (mo_passedIn v1 M_5)) (Or.inl ⟨rfl, (dg dc245 8 rfl)⟩) rfl rfl (Or.inl rfl) rfl (fun _ r9 => mo_passedIn_ok (Z := Z) (d := e9) (by omega)  r9) hf (fun z_9 M_8 he_7 hf => ?_)
    refine ex_pu (ls' := [vR 165, vJ v1, vU, vI v3, vI z_3, vU, vU, vU]) (st' := [vI z_3, vI z_9]) (dg dc245 9 rfl) rfl rfl ?_
    refine ex_cI (vs := [vI z_9, vI z_3]) (st' := []) (F := (mo_has z_9 z_3 M_8)) (Or.inl ⟨rfl, (dg dc245 10 rfl)⟩) rfl rfl (Or.inl rfl) rfl (fun _ r9 => mo_has_ok (Z := Z) (d := e9) (by omega)  r9) hf (fun z_12 M_11 he_10 hf => ?_)
    refine ex_if (t := 46) (dg dc245 11 rfl) rfl hf (fun _ hf => ?_) (fun _ hf => ?_)
    · refine ex_ldc2 (dg dc245 22 rfl) rfl ?_
      exact ex_jre (dg dc245 23 rfl) rfl hf
    · refine ex_pu (ls' := [vR 165, vJ v1, vU, vI v3, vI z_3, vU, vU, vU]) (st' := [vJ v1]) (dg dc245 12 rfl) rfl rfl ?_
      refine ex_pu (ls' := [vR 165, vJ v1, vU, vI v3, vI z_3, vU, vU, vU]) (st' := [vI v3, vJ v1]) (dg dc245 13 rfl) rfl rfl ?_
      refine ex_cI (vs := [vJ v1, vI v3]) (st' := []) (F := (mo_stateOf v1 v3 M_11)) (Or.inl ⟨rfl, (dg dc245 14 rfl)⟩) rfl rfl (Or.inl rfl) rfl (fun _ r9 => mo_stateOf_ok (Z := Z) (d := e9) (by omega)  r9) hf (fun z_15 M_14 he_13 hf => ?_)
      refine ex_pu (ls' := [vR 165, vJ v1, vU, vI v3, vI z_3, vU, vU, vU]) (st' := [vI 2, vI z_15]) (dg dc245 15 rfl) rfl rfl ?_
      refine ex_icmp (t := 46) (dg dc245 16 rfl) rfl hf (fun _ hf => ?_) (fun _ hf => ?_)
      · refine ex_ldc2 (dg dc245 22 rfl) rfl ?_
        exact ex_jre (dg dc245 23 rfl) rfl hf
      · refine ex_pu (ls' := [vR 165, vJ v1, vU, vI v3, vI z_3, vU, vU, vU]) (st' := [vR 165]) (dg dc245 17 rfl) rfl rfl ?_
        refine ex_pu (ls' := [vR 165, vJ v1, vU, vI v3, vI z_3, vU, vU, vU]) (st' := [vI v3, vR 165]) (dg dc245 18 rfl) rfl rfl ?_
        refine ex_pu (ls' := [vR 165, vJ v1, vU, vI v3, vI z_3, vU, vU, vU]) (st' := [vI z_3, vI v3, vR 165]) (dg dc245 19 rfl) rfl rfl ?_
        refine ex_cI (vs := [vR 165, vI v3, vI z_3]) (st' := []) (F := (mo_fitsKeeper v3 z_3 M_14)) (Or.inr (Or.inl ⟨rfl, (dg dc245 20 rfl)⟩)) rfl rfl (rk1 (LOC.st (Nat.le_of_ble_eq_true rfl) rfl) rfl) rfl (fun _ r9 => mo_fitsKeeper_ok (Z := Z) (d := e9) (by omega)  r9) hf (fun z_18 M_17 he_16 hf => ?_)
        refine ex_if (t := 50) (dg dc245 21 rfl) rfl hf (fun _ hf => ?_) (fun _ hf => ?_)
        · refine ex_pu (ls' := [vR 165, vJ v1, vU, vI v3, vI z_3, vU, vU, vU]) (st' := [vJ v1]) (dg dc245 24 rfl) rfl rfl ?_
          refine ex_pu (ls' := [vR 165, vJ v1, vU, vI v3, vI z_3, vU, vU, vU]) (st' := [vI 34, vJ v1]) (dg dc245 25 rfl) rfl rfl ?_
          refine ex_pu (ls' := [vR 165, vJ v1, vU, vI v3, vI z_3, vU, vU, vU]) (st' := [vI z_3, vI 34, vJ v1]) (dg dc245 26 rfl) rfl rfl ?_
          refine ex_pu (ls' := [vR 165, vJ v1, vU, vI v3, vI z_3, vU, vU, vU]) (st' := [vI (34 + z_3), vJ v1]) (dg dc245 27 rfl) rfl rfl ?_
          refine ex_pu (ls' := [vR 165, vJ v1, vU, vI v3, vI z_3, vU, vU, vU]) (st' := [vI 1, vI (34 + z_3), vJ v1]) (dg dc245 28 rfl) rfl rfl ?_
          refine ex_pu (ls' := [vR 165, vJ v1, vU, vI v3, vI z_3, vU, vU, vU]) (st' := [vI 1, vI 1, vI (34 + z_3), vJ v1]) (dg dc245 29 rfl) rfl rfl ?_
          refine ex_cJ (vs := [vJ v1, vI (34 + z_3), vI 1, vI 1]) (st' := []) (F := (mo_with v1 (34 + z_3) 1 1 M_17)) (Or.inl ⟨rfl, (dg dc245 30 rfl)⟩) rfl rfl (Or.inl rfl) rfl (fun _ r9 => mo_with_ok (Z := Z) (d := e9) (by omega)  r9) hf (fun z_21 M_20 he_19 hf => ?_)
          refine ex_pu (ls' := [vR 165, vJ v1, vU, vI v3, vI z_3, vJ z_21, vU, vU]) (st' := []) (dg dc245 31 rfl) rfl rfl ?_
          refine ex_pu (ls' := [vR 165, vJ v1, vU, vI v3, vI z_3, vJ z_21, vU, vU]) (st' := [vR 165]) (dg dc245 32 rfl) rfl rfl ?_
          refine ex_pu (ls' := [vR 165, vJ v1, vU, vI v3, vI z_3, vJ z_21, vU, vU]) (st' := [vI z_3, vR 165]) (dg dc245 33 rfl) rfl rfl ?_
          refine ex_pu (ls' := [vR 165, vJ v1, vU, vI v3, vI z_3, vJ z_21, vU, vU]) (st' := [vI 5, vI z_3, vR 165]) (dg dc245 34 rfl) rfl rfl ?_
          refine ex_cI (vs := [vR 165, vI z_3, vI 5]) (st' := []) (F := (mo_of z_3 5 M_20)) (Or.inr (Or.inl ⟨rfl, (dg dc245 35 rfl)⟩)) rfl rfl (rk1 (LOC.st (Nat.le_of_ble_eq_true rfl) rfl) rfl) rfl (fun _ r9 => mo_of_ok (Z := Z) (d := e9) (by omega)  r9) hf (fun z_24 M_23 he_22 hf => ?_)
          refine ex_pu (ls' := [vR 165, vJ v1, vU, vI v3, vI z_3, vJ z_21, vU, vU]) (st' := [vI 1, vI z_24]) (dg dc245 36 rfl) rfl rfl ?_
          refine ex_icmp (t := 83) (dg dc245 37 rfl) rfl hf (fun _ hf => ?_) (fun _ hf => ?_)
          · exact mo_pays_J83_ok hd   z_3 z_21 M_23 _ _ _ _ hf
          · refine ex_pu (ls' := [vR 165, vJ v1, vU, vI v3, vI z_3, vJ z_21, vU, vU]) (st' := [vJ z_21]) (dg dc245 38 rfl) rfl rfl ?_
            refine ex_pu (ls' := [vR 165, vJ v1, vU, vI v3, vI z_3, vJ z_21, vU, vU]) (st' := [vI v3, vJ z_21]) (dg dc245 39 rfl) rfl rfl ?_
            refine ex_pu (ls' := [vR 165, vJ v1, vU, vI v3, vI z_3, vJ z_21, vU, vU]) (st' := [vI 3, vI v3, vJ z_21]) (dg dc245 40 rfl) rfl rfl ?_
            refine ex_cJ (vs := [vJ z_21, vI v3, vI 3]) (st' := []) (F := (mo_withState z_21 v3 3 M_23)) (Or.inl ⟨rfl, (dg dc245 41 rfl)⟩) rfl rfl (Or.inl rfl) rfl (fun _ r9 => mo_withState_ok (Z := Z) (d := e9) (by omega)  r9) hf (fun z_42 M_41 he_40 hf => ?_)
            refine ex_pu (ls' := [vR 165, vJ v1, vU, vI v3, vI z_3, vJ z_42, vU, vU]) (st' := []) (dg dc245 42 rfl) rfl rfl ?_
            exact mo_pays_J83_ok hd   z_3 z_42 M_41 _ _ _ _ hf
        · refine ex_ldc2 (dg dc245 22 rfl) rfl ?_
          exact ex_jre (dg dc245 23 rfl) rfl hf
-- GlassHillModel.takes
def il246 : List (Nat × Instr × Nat) := [(0, .lload_n 1, 1), (1, .iload_n 3, 1), (2, .invokestatic 313, 3), (5, .ifCond .ne 33, 3), (8, .aload_n 0, 1), (9, .iload_n 3, 1), (10, .iconst 3, 1), (11, .invokevirtual 290, 3), (14, .lload_n 1, 1), (15, .invokestatic 307, 3), (18, .if_icmp .ne 20, 3), (21, .aload_n 0, 1), (22, .lload_n 1, 1), (23, .iconst 2, 1), (24, .invokevirtual 358, 3), (27, .invokestatic 361, 3), (30, .iconst 4, 1), (31, .if_icmp .ge 7, 3), (34, .iconst 1, 1), (35, .goto 4, 3), (38, .iconst 0, 1), (39, .istore 4, 2), (41, .iload 4, 2), (43, .ifCond .eq 12, 3), (46, .lload_n 1, 1), (47, .iload_n 3, 1), (48, .iconst 2, 1), (49, .invokestatic 293, 3), (52, .goto 6, 3), (55, .ldc2_w 281, 3), (58, .lreturn, 1)]
theorem dc246 : dcs (mC 246) il246 := dc_of (by decide +kernel)
def mo_takes (v1 : Int) (v3 : Int) (M : MM) : OR :=
  (bI (mo_stateOf v1 v3 M) fun z_3 M_2 => (bif cmpB .ne z_3 0 then some (rJ (-1), M_2) else (bI (mo_ofThing v3 3 M_2) fun z_6 M_5 => (bI (mo_placeOf v1 M_5) fun z_9 M_8 => (bif cmpB .ne z_6 z_9 then some (rJ (-1), M_8) else (bI (mo_thingsIn v1 2 M_8) fun z_12 M_11 => (bI (jdk_bitCount z_12 M_11) fun z_15 M_14 => (bif cmpB .ge z_15 4 then some (rJ (-1), M_14) else (bJ (mo_withState v1 v3 2 M_14) fun z_18 M_17 => some (rJ z_18, M_17))))))))))
set_option maxRecDepth 4000 in
theorem mo_takes_ok {Z : Nat × (Nat → Int)} {d : Nat} (hd : 3 ≤ d) {M : MM}  {v1 v3 : Int} {res : AR × MM} (hf : mo_takes v1 v3 M = some res) : EX Z d 246 0 (ent 246 [vR 165, vJ v1, vI v3]) [] M res := by
  obtain ⟨e9, rfl⟩ : ∃ e9, d = e9 + 1 := ⟨d - 1, by omega⟩
  unfold mo_takes at hf
  show EX Z _ 246 0 [vR 165, vJ v1, vU, vI v3, vU] [] M res
  refine ex_pu (ls' := [vR 165, vJ v1, vU, vI v3, vU]) (st' := [vJ v1]) (dg dc246 0 rfl) rfl rfl ?_
  refine ex_pu (ls' := [vR 165, vJ v1, vU, vI v3, vU]) (st' := [vI v3, vJ v1]) (dg dc246 1 rfl) rfl rfl ?_
  refine ex_cI (vs := [vJ v1, vI v3]) (st' := []) (F := (mo_stateOf v1 v3 M)) (Or.inl ⟨rfl, (dg dc246 2 rfl)⟩) rfl rfl (Or.inl rfl) rfl (fun _ r9 => mo_stateOf_ok (Z := Z) (d := e9) (by omega)  r9) hf (fun z_3 M_2 he_1 hf => ?_)
  refine ex_if (t := 38) (dg dc246 3 rfl) rfl hf (fun _ hf => ?_) (fun _ hf => ?_)
  · refine ex_pu (ls' := [vR 165, vJ v1, vU, vI v3, vU]) (st' := [vI 0]) (dg dc246 20 rfl) rfl rfl ?_
    refine ex_pu (ls' := [vR 165, vJ v1, vU, vI v3, vI 0]) (st' := []) (dg dc246 21 rfl) rfl rfl ?_
    refine ex_pu (ls' := [vR 165, vJ v1, vU, vI v3, vI 0]) (st' := [vI 0]) (dg dc246 22 rfl) rfl rfl ?_
    refine ex_if0 (b := true) (t := 55) (dg dc246 23 rfl) rfl rfl ?_
    show EX Z _ 246 55 _ _ _ _
    refine ex_ldc2 (dg dc246 29 rfl) rfl ?_
    exact ex_jre (dg dc246 30 rfl) rfl hf
  · refine ex_pu (ls' := [vR 165, vJ v1, vU, vI v3, vU]) (st' := [vR 165]) (dg dc246 4 rfl) rfl rfl ?_
    refine ex_pu (ls' := [vR 165, vJ v1, vU, vI v3, vU]) (st' := [vI v3, vR 165]) (dg dc246 5 rfl) rfl rfl ?_
    refine ex_pu (ls' := [vR 165, vJ v1, vU, vI v3, vU]) (st' := [vI 3, vI v3, vR 165]) (dg dc246 6 rfl) rfl rfl ?_
    refine ex_cI (vs := [vR 165, vI v3, vI 3]) (st' := []) (F := (mo_ofThing v3 3 M_2)) (Or.inr (Or.inl ⟨rfl, (dg dc246 7 rfl)⟩)) rfl rfl (rk1 (LOC.st (Nat.le_of_ble_eq_true rfl) rfl) rfl) rfl (fun _ r9 => mo_ofThing_ok (Z := Z) (d := e9) (by omega)  r9) hf (fun z_6 M_5 he_4 hf => ?_)
    refine ex_pu (ls' := [vR 165, vJ v1, vU, vI v3, vU]) (st' := [vJ v1, vI z_6]) (dg dc246 8 rfl) rfl rfl ?_
    refine ex_cI (vs := [vJ v1]) (st' := [vI z_6]) (F := (mo_placeOf v1 M_5)) (Or.inl ⟨rfl, (dg dc246 9 rfl)⟩) rfl rfl (Or.inl rfl) rfl (fun _ r9 => mo_placeOf_ok (Z := Z) (d := e9) (by omega)  r9) hf (fun z_9 M_8 he_7 hf => ?_)
    refine ex_icmp (t := 38) (dg dc246 10 rfl) rfl hf (fun _ hf => ?_) (fun _ hf => ?_)
    · refine ex_pu (ls' := [vR 165, vJ v1, vU, vI v3, vU]) (st' := [vI 0]) (dg dc246 20 rfl) rfl rfl ?_
      refine ex_pu (ls' := [vR 165, vJ v1, vU, vI v3, vI 0]) (st' := []) (dg dc246 21 rfl) rfl rfl ?_
      refine ex_pu (ls' := [vR 165, vJ v1, vU, vI v3, vI 0]) (st' := [vI 0]) (dg dc246 22 rfl) rfl rfl ?_
      refine ex_if0 (b := true) (t := 55) (dg dc246 23 rfl) rfl rfl ?_
      show EX Z _ 246 55 _ _ _ _
      refine ex_ldc2 (dg dc246 29 rfl) rfl ?_
      exact ex_jre (dg dc246 30 rfl) rfl hf
    · refine ex_pu (ls' := [vR 165, vJ v1, vU, vI v3, vU]) (st' := [vR 165]) (dg dc246 11 rfl) rfl rfl ?_
      refine ex_pu (ls' := [vR 165, vJ v1, vU, vI v3, vU]) (st' := [vJ v1, vR 165]) (dg dc246 12 rfl) rfl rfl ?_
      refine ex_pu (ls' := [vR 165, vJ v1, vU, vI v3, vU]) (st' := [vI 2, vJ v1, vR 165]) (dg dc246 13 rfl) rfl rfl ?_
      refine ex_cI (vs := [vR 165, vJ v1, vI 2]) (st' := []) (F := (mo_thingsIn v1 2 M_8)) (Or.inr (Or.inl ⟨rfl, (dg dc246 14 rfl)⟩)) rfl rfl (rk1 (LOC.st (Nat.le_of_ble_eq_true rfl) rfl) rfl) rfl (fun _ r9 => mo_thingsIn_ok (Z := Z) (d := e9) (by omega)  r9) hf (fun z_12 M_11 he_10 hf => ?_)
      refine ex_cI (vs := [vI z_12]) (st' := []) (F := (jdk_bitCount z_12 M_11)) (Or.inl ⟨rfl, (dg dc246 15 rfl)⟩) rfl rfl (Or.inl rfl) rfl (fun _ r9 => jdk_bitCount_ok (Z := Z) (d := e9) (by omega)  r9) hf (fun z_15 M_14 he_13 hf => ?_)
      refine ex_pu (ls' := [vR 165, vJ v1, vU, vI v3, vU]) (st' := [vI 4, vI z_15]) (dg dc246 16 rfl) rfl rfl ?_
      refine ex_icmp (t := 38) (dg dc246 17 rfl) rfl hf (fun _ hf => ?_) (fun _ hf => ?_)
      · refine ex_pu (ls' := [vR 165, vJ v1, vU, vI v3, vU]) (st' := [vI 0]) (dg dc246 20 rfl) rfl rfl ?_
        refine ex_pu (ls' := [vR 165, vJ v1, vU, vI v3, vI 0]) (st' := []) (dg dc246 21 rfl) rfl rfl ?_
        refine ex_pu (ls' := [vR 165, vJ v1, vU, vI v3, vI 0]) (st' := [vI 0]) (dg dc246 22 rfl) rfl rfl ?_
        refine ex_if0 (b := true) (t := 55) (dg dc246 23 rfl) rfl rfl ?_
        show EX Z _ 246 55 _ _ _ _
        refine ex_ldc2 (dg dc246 29 rfl) rfl ?_
        exact ex_jre (dg dc246 30 rfl) rfl hf
      · refine ex_pu (ls' := [vR 165, vJ v1, vU, vI v3, vU]) (st' := [vI 1]) (dg dc246 18 rfl) rfl rfl ?_
        refine ex_goto (t := 39) (dg dc246 19 rfl) rfl rfl ?_
        refine ex_pu (ls' := [vR 165, vJ v1, vU, vI v3, vI 1]) (st' := []) (dg dc246 21 rfl) rfl rfl ?_
        refine ex_pu (ls' := [vR 165, vJ v1, vU, vI v3, vI 1]) (st' := [vI 1]) (dg dc246 22 rfl) rfl rfl ?_
        refine ex_if0 (b := false) (t := 55) (dg dc246 23 rfl) rfl rfl ?_
        show EX Z _ 246 46 _ _ _ _
        refine ex_pu (ls' := [vR 165, vJ v1, vU, vI v3, vI 1]) (st' := [vJ v1]) (dg dc246 24 rfl) rfl rfl ?_
        refine ex_pu (ls' := [vR 165, vJ v1, vU, vI v3, vI 1]) (st' := [vI v3, vJ v1]) (dg dc246 25 rfl) rfl rfl ?_
        refine ex_pu (ls' := [vR 165, vJ v1, vU, vI v3, vI 1]) (st' := [vI 2, vI v3, vJ v1]) (dg dc246 26 rfl) rfl rfl ?_
        refine ex_cJ (vs := [vJ v1, vI v3, vI 2]) (st' := []) (F := (mo_withState v1 v3 2 M_14)) (Or.inl ⟨rfl, (dg dc246 27 rfl)⟩) rfl rfl (Or.inl rfl) rfl (fun _ r9 => mo_withState_ok (Z := Z) (d := e9) (by omega)  r9) hf (fun z_18 M_17 he_16 hf => ?_)
        refine ex_goto (t := 58) (dg dc246 28 rfl) rfl rfl ?_
        exact ex_jre (dg dc246 30 rfl) rfl hf
-- GlassHillModel.rule
def il255 : List (Nat × Instr × Nat) := [(0, .aload_n 0, 1), (1, .iconst 0, 1), (2, .putfield 3, 3), (5, .aload_n 0, 1), (6, .aload_n 0, 1), (7, .iload_n 1, 1), (8, .invokevirtual 402, 3), (11, .iconst 1, 1), (12, .invokevirtual 274, 3), (15, .ifCond .ne 60, 3), (18, .aload_n 0, 1), (19, .aload_n 0, 1), (20, .invokevirtual 76, 3), (23, .ifCond .eq 18, 3), (26, .aload_n 0, 1), (27, .iload_n 1, 1), (28, .aload_n 0, 1), (29, .getfield 13, 3), (32, .bipush 7, 2), (34, .iaload, 1), (35, .invokevirtual 355, 3), (38, .ifCond .ge 7, 3), (41, .iconst 1, 1), (42, .goto 4, 3), (45, .iconst 0, 1), (46, .iconst 2, 1), (47, .invokevirtual 274, 3), (50, .ifCond .ne 25, 3), (53, .aload_n 0, 1), (54, .iload_n 2, 1), (55, .iconst 0, 1), (56, .iconst 2, 1), (57, .invokestatic 80, 3), (60, .ifCond .ne 7, 3), (63, .iconst 1, 1), (64, .goto 4, 3), (67, .iconst 0, 1), (68, .iconst 3, 1), (69, .invokevirtual 274, 3), (72, .ifCond .eq 5, 3), (75, .iconst 0, 1), (76, .ireturn, 1), (77, .aload_n 0, 1), (78, .aload_n 0, 1), (79, .invokevirtual 411, 3), (82, .iload_n 1, 1), (83, .invokevirtual 377, 3), (86, .istore_n 3, 1), (87, .iload_n 2, 1), (88, .iconst 1, 1), (89, .if_icmp .ne 7, 3), (92, .iload_n 3, 1), (93, .goto 40, 3), (96, .iload_n 2, 1), (97, .ifCond .ne 19, 3), (100, .aload_n 0, 1), (101, .iconst 0, 1), (102, .invokevirtual 374, 3), (105, .ifCond .le 7, 3), (108, .iconst 1, 1), (109, .goto 24, 3), (112, .iconst 0, 1), (113, .goto 20, 3), (116, .aload_n 0, 1), (117, .aload_n 0, 1), (118, .invokevirtual 411, 3), (121, .iload_n 1, 1), (122, .invokevirtual 383, 3), (125, .ifCond .eq 7, 3), (128, .iconst 1, 1), (129, .goto 4, 3), (132, .iconst 0, 1), (133, .ireturn, 1)]
theorem dc255 : dcs (mC 255) il255 := dc_of (by decide +kernel)
def mo_rule_J68   (v1 v2 s0 : Int) (M : MM) : OR :=
  (bI (mo_throwsIf s0 3 M) fun z_20 M_19 => (bif cmpB .eq z_20 0 then (bJ (mo_now  M_19) fun z_23 M_22 => (bI (mo_hoursBy z_23 v1 M_22) fun z_26 M_25 => (bif cmpB .ne v2 1 then (bif cmpB .ne v2 0 then (bJ (mo_now  M_25) fun z_29 M_28 => (bI (mo_canGo z_29 v1 M_28) fun z_32 M_31 => (bif cmpB .eq z_32 0 then some (rI 0, M_31) else some (rI 1, M_31)))) else (bI (mo_sumOf 0 M_25) fun z_35 M_34 => (bif cmpB .le z_35 0 then some (rI 0, M_34) else some (rI 1, M_34)))) else some (rI z_26, M_25)))) else some (rI 0, M_19)))
set_option maxRecDepth 4000 in
theorem mo_rule_J68_ok {Z : Nat × (Nat → Int)} {d : Nat} (hd : 6 ≤ d)   {res : AR × MM}  : ∀ (v1 v2 s0 : Int) (M : MM) (j3 : AV), mo_rule_J68   v1 v2 s0 M = some res → EX Z d 255 68 [vR 165, vI v1, vI v2, j3] [vI s0, vR 165] M res := by
  obtain ⟨e9, rfl⟩ : ∃ e9, d = e9 + 1 := ⟨d - 1, by omega⟩
  intro v1 v2 s0 M j3 hf
  unfold mo_rule_J68 at hf
  refine ex_pu (ls' := [vR 165, vI v1, vI v2, j3]) (st' := [vI 3, vI s0, vR 165]) (dg dc255 37 rfl) rfl rfl ?_
  refine ex_cI (vs := [vR 165, vI s0, vI 3]) (st' := []) (F := (mo_throwsIf s0 3 M)) (Or.inr (Or.inl ⟨rfl, (dg dc255 38 rfl)⟩)) rfl rfl (rk1 (LOC.st (Nat.le_of_ble_eq_true rfl) rfl) rfl) rfl (fun _ r9 => mo_throwsIf_ok (Z := Z) (d := e9) (by omega)  r9) hf (fun z_20 M_19 he_18 hf => ?_)
  refine ex_if (t := 77) (dg dc255 39 rfl) rfl hf (fun _ hf => ?_) (fun _ hf => ?_)
  · refine ex_pu (ls' := [vR 165, vI v1, vI v2, j3]) (st' := [vR 165]) (dg dc255 42 rfl) rfl rfl ?_
    refine ex_pu (ls' := [vR 165, vI v1, vI v2, j3]) (st' := [vR 165, vR 165]) (dg dc255 43 rfl) rfl rfl ?_
    refine ex_cJ (vs := [vR 165]) (st' := [vR 165]) (F := (mo_now  M_19)) (Or.inr (Or.inl ⟨rfl, (dg dc255 44 rfl)⟩)) rfl rfl (rk1 (LOC.st (Nat.le_of_ble_eq_true rfl) rfl) rfl) rfl (fun _ r9 => mo_now_ok (Z := Z) (d := e9) (by omega)  r9) hf (fun z_23 M_22 he_21 hf => ?_)
    refine ex_pu (ls' := [vR 165, vI v1, vI v2, j3]) (st' := [vI v1, vJ z_23, vR 165]) (dg dc255 45 rfl) rfl rfl ?_
    refine ex_cI (vs := [vR 165, vJ z_23, vI v1]) (st' := []) (F := (mo_hoursBy z_23 v1 M_22)) (Or.inr (Or.inl ⟨rfl, (dg dc255 46 rfl)⟩)) rfl rfl (rk1 (LOC.st (Nat.le_of_ble_eq_true rfl) rfl) rfl) rfl (fun _ r9 => mo_hoursBy_ok (Z := Z) (d := e9) (by omega)  r9) hf (fun z_26 M_25 he_24 hf => ?_)
    refine ex_pu (ls' := [vR 165, vI v1, vI v2, vI z_26]) (st' := []) (dg dc255 47 rfl) rfl rfl ?_
    refine ex_pu (ls' := [vR 165, vI v1, vI v2, vI z_26]) (st' := [vI v2]) (dg dc255 48 rfl) rfl rfl ?_
    refine ex_pu (ls' := [vR 165, vI v1, vI v2, vI z_26]) (st' := [vI 1, vI v2]) (dg dc255 49 rfl) rfl rfl ?_
    refine ex_icmp (t := 96) (dg dc255 50 rfl) rfl hf (fun _ hf => ?_) (fun _ hf => ?_)
    · refine ex_pu (ls' := [vR 165, vI v1, vI v2, vI z_26]) (st' := [vI v2]) (dg dc255 53 rfl) rfl rfl ?_
      refine ex_if (t := 116) (dg dc255 54 rfl) rfl hf (fun _ hf => ?_) (fun _ hf => ?_)
      · refine ex_pu (ls' := [vR 165, vI v1, vI v2, vI z_26]) (st' := [vR 165]) (dg dc255 63 rfl) rfl rfl ?_
        refine ex_pu (ls' := [vR 165, vI v1, vI v2, vI z_26]) (st' := [vR 165, vR 165]) (dg dc255 64 rfl) rfl rfl ?_
        refine ex_cJ (vs := [vR 165]) (st' := [vR 165]) (F := (mo_now  M_25)) (Or.inr (Or.inl ⟨rfl, (dg dc255 65 rfl)⟩)) rfl rfl (rk1 (LOC.st (Nat.le_of_ble_eq_true rfl) rfl) rfl) rfl (fun _ r9 => mo_now_ok (Z := Z) (d := e9) (by omega)  r9) hf (fun z_29 M_28 he_27 hf => ?_)
        refine ex_pu (ls' := [vR 165, vI v1, vI v2, vI z_26]) (st' := [vI v1, vJ z_29, vR 165]) (dg dc255 66 rfl) rfl rfl ?_
        refine ex_cI (vs := [vR 165, vJ z_29, vI v1]) (st' := []) (F := (mo_canGo z_29 v1 M_28)) (Or.inr (Or.inl ⟨rfl, (dg dc255 67 rfl)⟩)) rfl rfl (rk1 (LOC.st (Nat.le_of_ble_eq_true rfl) rfl) rfl) rfl (fun _ r9 => mo_canGo_ok (Z := Z) (d := e9) (by omega)  r9) hf (fun z_32 M_31 he_30 hf => ?_)
        refine ex_if (t := 132) (dg dc255 68 rfl) rfl hf (fun _ hf => ?_) (fun _ hf => ?_)
        · refine ex_pu (ls' := [vR 165, vI v1, vI v2, vI z_26]) (st' := [vI 0]) (dg dc255 71 rfl) rfl rfl ?_
          exact ex_ire (dg dc255 72 rfl) rfl hf
        · refine ex_pu (ls' := [vR 165, vI v1, vI v2, vI z_26]) (st' := [vI 1]) (dg dc255 69 rfl) rfl rfl ?_
          refine ex_goto (t := 133) (dg dc255 70 rfl) rfl rfl ?_
          exact ex_ire (dg dc255 72 rfl) rfl hf
      · refine ex_pu (ls' := [vR 165, vI v1, vI v2, vI z_26]) (st' := [vR 165]) (dg dc255 55 rfl) rfl rfl ?_
        refine ex_pu (ls' := [vR 165, vI v1, vI v2, vI z_26]) (st' := [vI 0, vR 165]) (dg dc255 56 rfl) rfl rfl ?_
        refine ex_cI (vs := [vR 165, vI 0]) (st' := []) (F := (mo_sumOf 0 M_25)) (Or.inr (Or.inl ⟨rfl, (dg dc255 57 rfl)⟩)) rfl rfl (rk1 (LOC.st (Nat.le_of_ble_eq_true rfl) rfl) rfl) rfl (fun _ r9 => mo_sumOf_ok (Z := Z) (d := e9) (by omega)  r9) hf (fun z_35 M_34 he_33 hf => ?_)
        refine ex_if (t := 112) (dg dc255 58 rfl) rfl hf (fun _ hf => ?_) (fun _ hf => ?_)
        · refine ex_pu (ls' := [vR 165, vI v1, vI v2, vI z_26]) (st' := [vI 0]) (dg dc255 61 rfl) rfl rfl ?_
          refine ex_goto (t := 133) (dg dc255 62 rfl) rfl rfl ?_
          exact ex_ire (dg dc255 72 rfl) rfl hf
        · refine ex_pu (ls' := [vR 165, vI v1, vI v2, vI z_26]) (st' := [vI 1]) (dg dc255 59 rfl) rfl rfl ?_
          refine ex_goto (t := 133) (dg dc255 60 rfl) rfl rfl ?_
          exact ex_ire (dg dc255 72 rfl) rfl hf
    · refine ex_pu (ls' := [vR 165, vI v1, vI v2, vI z_26]) (st' := [vI z_26]) (dg dc255 51 rfl) rfl rfl ?_
      refine ex_goto (t := 133) (dg dc255 52 rfl) rfl rfl ?_
      exact ex_ire (dg dc255 72 rfl) rfl hf
  · refine ex_pu (ls' := [vR 165, vI v1, vI v2, j3]) (st' := [vI 0]) (dg dc255 40 rfl) rfl rfl ?_
    exact ex_ire (dg dc255 41 rfl) rfl hf
def mo_rule_J46   (v1 v2 s0 : Int) (M : MM) : OR :=
  (bI (mo_throwsIf s0 2 M) fun z_14 M_13 => (bif cmpB .ne z_14 0 then some (rI 0, M_13) else (bI (mo_in v2 0 2 M_13) fun z_17 M_16 => (bif cmpB .ne z_17 0 then (mo_rule_J68   v1 v2 0 M_16) else (mo_rule_J68   v1 v2 1 M_16)))))
set_option maxRecDepth 4000 in
theorem mo_rule_J46_ok {Z : Nat × (Nat → Int)} {d : Nat} (hd : 6 ≤ d)   {res : AR × MM}  : ∀ (v1 v2 s0 : Int) (M : MM) (j3 : AV), mo_rule_J46   v1 v2 s0 M = some res → EX Z d 255 46 [vR 165, vI v1, vI v2, j3] [vI s0, vR 165] M res := by
  obtain ⟨e9, rfl⟩ : ∃ e9, d = e9 + 1 := ⟨d - 1, by omega⟩
  intro v1 v2 s0 M j3 hf
  unfold mo_rule_J46 at hf
  refine ex_pu (ls' := [vR 165, vI v1, vI v2, j3]) (st' := [vI 2, vI s0, vR 165]) (dg dc255 25 rfl) rfl rfl ?_
  refine ex_cI (vs := [vR 165, vI s0, vI 2]) (st' := []) (F := (mo_throwsIf s0 2 M)) (Or.inr (Or.inl ⟨rfl, (dg dc255 26 rfl)⟩)) rfl rfl (rk1 (LOC.st (Nat.le_of_ble_eq_true rfl) rfl) rfl) rfl (fun _ r9 => mo_throwsIf_ok (Z := Z) (d := e9) (by omega)  r9) hf (fun z_14 M_13 he_12 hf => ?_)
  refine ex_if (t := 75) (dg dc255 27 rfl) rfl hf (fun _ hf => ?_) (fun _ hf => ?_)
  · refine ex_pu (ls' := [vR 165, vI v1, vI v2, j3]) (st' := [vI 0]) (dg dc255 40 rfl) rfl rfl ?_
    exact ex_ire (dg dc255 41 rfl) rfl hf
  · refine ex_pu (ls' := [vR 165, vI v1, vI v2, j3]) (st' := [vR 165]) (dg dc255 28 rfl) rfl rfl ?_
    refine ex_pu (ls' := [vR 165, vI v1, vI v2, j3]) (st' := [vI v2, vR 165]) (dg dc255 29 rfl) rfl rfl ?_
    refine ex_pu (ls' := [vR 165, vI v1, vI v2, j3]) (st' := [vI 0, vI v2, vR 165]) (dg dc255 30 rfl) rfl rfl ?_
    refine ex_pu (ls' := [vR 165, vI v1, vI v2, j3]) (st' := [vI 2, vI 0, vI v2, vR 165]) (dg dc255 31 rfl) rfl rfl ?_
    refine ex_cI (vs := [vI v2, vI 0, vI 2]) (st' := [vR 165]) (F := (mo_in v2 0 2 M_13)) (Or.inl ⟨rfl, (dg dc255 32 rfl)⟩) rfl rfl (Or.inl rfl) rfl (fun _ r9 => mo_in_ok (Z := Z) (d := e9) (by omega)  r9) hf (fun z_17 M_16 he_15 hf => ?_)
    refine ex_if (t := 67) (dg dc255 33 rfl) rfl hf (fun _ hf => ?_) (fun _ hf => ?_)
    · refine ex_pu (ls' := [vR 165, vI v1, vI v2, j3]) (st' := [vI 0, vR 165]) (dg dc255 36 rfl) rfl rfl ?_
      exact mo_rule_J68_ok hd   v1 v2 0 M_16 _ hf
    · refine ex_pu (ls' := [vR 165, vI v1, vI v2, j3]) (st' := [vI 1, vR 165]) (dg dc255 34 rfl) rfl rfl ?_
      refine ex_goto (t := 68) (dg dc255 35 rfl) rfl rfl ?_
      exact mo_rule_J68_ok hd   v1 v2 1 M_16 _ hf
def mo_rule_J41   (v1 v2 : Int) (M : MM) : OR :=
  (mo_rule_J46   v1 v2 1 M)
set_option maxRecDepth 4000 in
theorem mo_rule_J41_ok {Z : Nat × (Nat → Int)} {d : Nat} (hd : 6 ≤ d)   {res : AR × MM}  : ∀ (v1 v2 : Int) (M : MM) (j3 : AV), mo_rule_J41   v1 v2 M = some res → EX Z d 255 41 [vR 165, vI v1, vI v2, j3] [vR 165] M res := by
  obtain ⟨e9, rfl⟩ : ∃ e9, d = e9 + 1 := ⟨d - 1, by omega⟩
  intro v1 v2 M j3 hf
  unfold mo_rule_J41 at hf
  refine ex_pu (ls' := [vR 165, vI v1, vI v2, j3]) (st' := [vI 1, vR 165]) (dg dc255 22 rfl) rfl rfl ?_
  refine ex_goto (t := 46) (dg dc255 23 rfl) rfl rfl ?_
  exact mo_rule_J46_ok hd   v1 v2 1 M _ hf
def mo_rule (v1 : Int) (v2 : Int) (M : MM) : OR :=
  (sM (mU M 165 0 0) fun M_1 => (bI (mo_noRoad v1 M_1) fun z_5 M_4 => (bI (mo_throwsIf z_5 1 M_4) fun z_8 M_7 => (bif cmpB .ne z_8 0 then some (rI 0, M_7) else (bI (mo_places  M_7) fun z_11 M_10 => (bif cmpB .eq z_11 0 then (mo_rule_J41   v1 v2 M_10) else (bif inB 7 1964 then (bI (mo_otherEnd v1 (M_10 166 7) M_10) fun z_38 M_37 => (bif cmpB .ge z_38 0 then (mo_rule_J46   v1 v2 0 M_37) else (mo_rule_J41   v1 v2 M_37))) else none)))))))
set_option maxRecDepth 4000 in
theorem mo_rule_ok {Z : Nat × (Nat → Int)} {d : Nat} (hd : 6 ≤ d) {M : MM}  {v1 v2 : Int} {res : AR × MM} (hf : mo_rule v1 v2 M = some res) : EX Z d 255 0 (ent 255 [vR 165, vI v1, vI v2]) [] M res := by
  obtain ⟨e9, rfl⟩ : ∃ e9, d = e9 + 1 := ⟨d - 1, by omega⟩
  unfold mo_rule at hf
  show EX Z _ 255 0 [vR 165, vI v1, vI v2, vU] [] M res
  refine ex_pu (ls' := [vR 165, vI v1, vI v2, vU]) (st' := [vR 165]) (dg dc255 0 rfl) rfl rfl ?_
  refine ex_pu (ls' := [vR 165, vI v1, vI v2, vU]) (st' := [vI 0, vR 165]) (dg dc255 1 rfl) rfl rfl ?_
  refine ex_putI (dg dc255 2 rfl) rfl (LOC.st (Nat.le_of_ble_eq_true rfl) rfl) rfl rfl rfl ?_
  refine ex_gen hf (fun M_1 hM_2 hf => ?_)
  refine ex_pu (ls' := [vR 165, vI v1, vI v2, vU]) (st' := [vR 165]) (dg dc255 3 rfl) rfl rfl ?_
  refine ex_pu (ls' := [vR 165, vI v1, vI v2, vU]) (st' := [vR 165, vR 165]) (dg dc255 4 rfl) rfl rfl ?_
  refine ex_pu (ls' := [vR 165, vI v1, vI v2, vU]) (st' := [vI v1, vR 165, vR 165]) (dg dc255 5 rfl) rfl rfl ?_
  refine ex_cI (vs := [vR 165, vI v1]) (st' := [vR 165]) (F := (mo_noRoad v1 M_1)) (Or.inr (Or.inl ⟨rfl, (dg dc255 6 rfl)⟩)) rfl rfl (rk1 (LOC.st (Nat.le_of_ble_eq_true rfl) rfl) rfl) rfl (fun _ r9 => mo_noRoad_ok (Z := Z) (d := e9) (by omega)  r9) hf (fun z_5 M_4 he_3 hf => ?_)
  refine ex_pu (ls' := [vR 165, vI v1, vI v2, vU]) (st' := [vI 1, vI z_5, vR 165]) (dg dc255 7 rfl) rfl rfl ?_
  refine ex_cI (vs := [vR 165, vI z_5, vI 1]) (st' := []) (F := (mo_throwsIf z_5 1 M_4)) (Or.inr (Or.inl ⟨rfl, (dg dc255 8 rfl)⟩)) rfl rfl (rk1 (LOC.st (Nat.le_of_ble_eq_true rfl) rfl) rfl) rfl (fun _ r9 => mo_throwsIf_ok (Z := Z) (d := e9) (by omega)  r9) hf (fun z_8 M_7 he_6 hf => ?_)
  refine ex_if (t := 75) (dg dc255 9 rfl) rfl hf (fun _ hf => ?_) (fun _ hf => ?_)
  · refine ex_pu (ls' := [vR 165, vI v1, vI v2, vU]) (st' := [vI 0]) (dg dc255 40 rfl) rfl rfl ?_
    exact ex_ire (dg dc255 41 rfl) rfl hf
  · refine ex_pu (ls' := [vR 165, vI v1, vI v2, vU]) (st' := [vR 165]) (dg dc255 10 rfl) rfl rfl ?_
    refine ex_pu (ls' := [vR 165, vI v1, vI v2, vU]) (st' := [vR 165, vR 165]) (dg dc255 11 rfl) rfl rfl ?_
    refine ex_cI (vs := [vR 165]) (st' := [vR 165]) (F := (mo_places  M_7)) (Or.inr (Or.inl ⟨rfl, (dg dc255 12 rfl)⟩)) rfl rfl (rk1 (LOC.st (Nat.le_of_ble_eq_true rfl) rfl) rfl) rfl (fun _ r9 => mo_places_ok (Z := Z) (d := e9) (by omega)  r9) hf (fun z_11 M_10 he_9 hf => ?_)
    refine ex_if (t := 41) (dg dc255 13 rfl) rfl hf (fun _ hf => ?_) (fun _ hf => ?_)
    · exact mo_rule_J41_ok hd   v1 v2 M_10 _ hf
    · refine ex_pu (ls' := [vR 165, vI v1, vI v2, vU]) (st' := [vR 165, vR 165]) (dg dc255 14 rfl) rfl rfl ?_
      refine ex_pu (ls' := [vR 165, vI v1, vI v2, vU]) (st' := [vI v1, vR 165, vR 165]) (dg dc255 15 rfl) rfl rfl ?_
      refine ex_pu (ls' := [vR 165, vI v1, vI v2, vU]) (st' := [vR 165, vI v1, vR 165, vR 165]) (dg dc255 16 rfl) rfl rfl ?_
      refine ex_getO (dg dc255 17 rfl) rfl (LOC.st (Nat.le_of_ble_eq_true rfl) rfl) rfl ?_
      show EX Z _ 255 _ [vR 165, vI v1, vI v2, vU] [vR 166, vI v1, vR 165, vR 165] _ _
      refine ex_pu (ls' := [vR 165, vI v1, vI v2, vU]) (st' := [vI 7, vR 166, vI v1, vR 165, vR 165]) (dg dc255 18 rfl) rfl rfl ?_
      refine ex_iald (dg dc255 19 rfl) (LOC.st (Nat.le_of_ble_eq_true rfl) rfl) rfl hf (fun _ hf => ?_)
      refine ex_cI (vs := [vR 165, vI v1, vI (M_10 166 7)]) (st' := [vR 165]) (F := (mo_otherEnd v1 (M_10 166 7) M_10)) (Or.inr (Or.inl ⟨rfl, (dg dc255 20 rfl)⟩)) rfl rfl (rk1 (LOC.st (Nat.le_of_ble_eq_true rfl) rfl) rfl) rfl (fun _ r9 => mo_otherEnd_ok (Z := Z) (d := e9) (by omega)  r9) hf (fun z_38 M_37 he_36 hf => ?_)
      refine ex_if (t := 45) (dg dc255 21 rfl) rfl hf (fun _ hf => ?_) (fun _ hf => ?_)
      · refine ex_pu (ls' := [vR 165, vI v1, vI v2, vU]) (st' := [vI 0, vR 165]) (dg dc255 24 rfl) rfl rfl ?_
        exact mo_rule_J46_ok hd   v1 v2 0 M_37 _ hf
      · exact mo_rule_J41_ok hd   v1 v2 M_37 _ hf
-- GlassHillModel.go
def il257 : List (Nat × Instr × Nat) := [(0, .aload_n 0, 1), (1, .iconst 0, 1), (2, .putfield 3, 3), (5, .aload_n 0, 1), (6, .aload_n 0, 1), (7, .iload_n 1, 1), (8, .invokevirtual 402, 3), (11, .iconst 1, 1), (12, .invokevirtual 274, 3), (15, .ifCond .eq 5, 3), (18, .iconst 0, 1), (19, .ireturn, 1), (20, .aload_n 0, 1), (21, .aload_n 0, 1), (22, .invokevirtual 76, 3), (25, .ifCond .eq 15, 3), (28, .aload_n 0, 1), (29, .aload_n 0, 1), (30, .invokevirtual 411, 3), (33, .iload_n 1, 1), (34, .invokevirtual 383, 3), (37, .ifCond .ne 7, 3), (40, .iconst 1, 1), (41, .goto 4, 3), (44, .iconst 0, 1), (45, .iconst 2, 1), (46, .invokevirtual 274, 3), (49, .ifCond .eq 5, 3), (52, .iconst 0, 1), (53, .ireturn, 1), (54, .aload_n 0, 1), (55, .invokevirtual 415, 3), (58, .aload_n 0, 1), (59, .aload_n 0, 1), (60, .invokevirtual 411, 3), (63, .iload_n 1, 1), (64, .invokevirtual 377, 3), (67, .istore_n 2, 1), (68, .aload_n 0, 1), (69, .iload_n 1, 1), (70, .aload_n 0, 1), (71, .getfield 13, 3), (74, .bipush 7, 2), (76, .iaload, 1), (77, .invokevirtual 355, 3), (80, .istore_n 3, 1), (81, .aload_n 0, 1), (82, .getfield 13, 3), (85, .bipush 6, 2), (87, .dup2, 1), (88, .iaload, 1), (89, .iload_n 2, 1), (90, .iadd, 1), (91, .iastore, 1), (92, .aload_n 0, 1), (93, .getfield 13, 3), (96, .bipush 7, 2), (98, .iload_n 3, 1), (99, .iastore, 1), (100, .aload_n 0, 1), (101, .getfield 13, 3), (104, .bipush 8, 2), (106, .iload_n 1, 1), (107, .iastore, 1), (108, .aload_n 0, 1), (109, .getfield 13, 3), (112, .bipush 6, 2), (114, .iaload, 1), (115, .ireturn, 1)]
theorem dc257 : dcs (mC 257) il257 := dc_of (by decide +kernel)
def mo_go_J45   (v1 s0 : Int) (M : MM) : OR :=
  (bI (mo_throwsIf s0 2 M) fun z_14 M_13 => (bif cmpB .eq z_14 0 then (bV (mo_remembers  M_13) fun M_16 => (bJ (mo_now  M_16) fun z_20 M_19 => (bI (mo_hoursBy z_20 v1 M_19) fun z_23 M_22 => (bif inB 7 1964 then (bI (mo_otherEnd v1 (M_22 166 7) M_22) fun z_26 M_25 => (bif inB 6 1964 then (bif inB 6 1964 then (sM (mU M_25 166 6 ((M_25 166 6) + z_23)) fun M_27 => (bif inB 7 1964 then (sM (mU M_27 166 7 z_26) fun M_29 => (bif inB 8 1964 then (sM (mU M_29 166 8 v1) fun M_31 => (bif inB 6 1964 then some (rI (M_31 166 6), M_31) else none)) else none)) else none)) else none) else none)) else none)))) else some (rI 0, M_13)))
set_option maxRecDepth 4000 in
theorem mo_go_J45_ok {Z : Nat × (Nat → Int)} {d : Nat} (hd : 6 ≤ d)   {res : AR × MM}  : ∀ (v1 s0 : Int) (M : MM) (j2 j3 : AV), mo_go_J45   v1 s0 M = some res → EX Z d 257 45 [vR 165, vI v1, j2, j3] [vI s0, vR 165] M res := by
  obtain ⟨e9, rfl⟩ : ∃ e9, d = e9 + 1 := ⟨d - 1, by omega⟩
  intro v1 s0 M j2 j3 hf
  unfold mo_go_J45 at hf
  refine ex_pu (ls' := [vR 165, vI v1, j2, j3]) (st' := [vI 2, vI s0, vR 165]) (dg dc257 25 rfl) rfl rfl ?_
  refine ex_cI (vs := [vR 165, vI s0, vI 2]) (st' := []) (F := (mo_throwsIf s0 2 M)) (Or.inr (Or.inl ⟨rfl, (dg dc257 26 rfl)⟩)) rfl rfl (rk1 (LOC.st (Nat.le_of_ble_eq_true rfl) rfl) rfl) rfl (fun _ r9 => mo_throwsIf_ok (Z := Z) (d := e9) (by omega)  r9) hf (fun z_14 M_13 he_12 hf => ?_)
  refine ex_if (t := 54) (dg dc257 27 rfl) rfl hf (fun _ hf => ?_) (fun _ hf => ?_)
  · refine ex_pu (ls' := [vR 165, vI v1, j2, j3]) (st' := [vR 165]) (dg dc257 30 rfl) rfl rfl ?_
    refine ex_cV (vs := [vR 165]) (st' := []) (F := (mo_remembers  M_13)) (Or.inr (Or.inl ⟨rfl, (dg dc257 31 rfl)⟩)) rfl rfl (rk1 (LOC.st (Nat.le_of_ble_eq_true rfl) rfl) rfl) rfl (fun _ r9 => mo_remembers_ok (Z := Z) (d := e9) (by omega)  r9) hf (fun M_16 he_15 hf => ?_)
    refine ex_pu (ls' := [vR 165, vI v1, j2, j3]) (st' := [vR 165]) (dg dc257 32 rfl) rfl rfl ?_
    refine ex_pu (ls' := [vR 165, vI v1, j2, j3]) (st' := [vR 165, vR 165]) (dg dc257 33 rfl) rfl rfl ?_
    refine ex_cJ (vs := [vR 165]) (st' := [vR 165]) (F := (mo_now  M_16)) (Or.inr (Or.inl ⟨rfl, (dg dc257 34 rfl)⟩)) rfl rfl (rk1 (LOC.st (Nat.le_of_ble_eq_true rfl) rfl) rfl) rfl (fun _ r9 => mo_now_ok (Z := Z) (d := e9) (by omega)  r9) hf (fun z_20 M_19 he_18 hf => ?_)
    refine ex_pu (ls' := [vR 165, vI v1, j2, j3]) (st' := [vI v1, vJ z_20, vR 165]) (dg dc257 35 rfl) rfl rfl ?_
    refine ex_cI (vs := [vR 165, vJ z_20, vI v1]) (st' := []) (F := (mo_hoursBy z_20 v1 M_19)) (Or.inr (Or.inl ⟨rfl, (dg dc257 36 rfl)⟩)) rfl rfl (rk1 (LOC.st (Nat.le_of_ble_eq_true rfl) rfl) rfl) rfl (fun _ r9 => mo_hoursBy_ok (Z := Z) (d := e9) (by omega)  r9) hf (fun z_23 M_22 he_21 hf => ?_)
    refine ex_pu (ls' := [vR 165, vI v1, vI z_23, j3]) (st' := []) (dg dc257 37 rfl) rfl rfl ?_
    refine ex_pu (ls' := [vR 165, vI v1, vI z_23, j3]) (st' := [vR 165]) (dg dc257 38 rfl) rfl rfl ?_
    refine ex_pu (ls' := [vR 165, vI v1, vI z_23, j3]) (st' := [vI v1, vR 165]) (dg dc257 39 rfl) rfl rfl ?_
    refine ex_pu (ls' := [vR 165, vI v1, vI z_23, j3]) (st' := [vR 165, vI v1, vR 165]) (dg dc257 40 rfl) rfl rfl ?_
    refine ex_getO (dg dc257 41 rfl) rfl (LOC.st (Nat.le_of_ble_eq_true rfl) rfl) rfl ?_
    show EX Z _ 257 _ [vR 165, vI v1, vI z_23, j3] [vR 166, vI v1, vR 165] _ _
    refine ex_pu (ls' := [vR 165, vI v1, vI z_23, j3]) (st' := [vI 7, vR 166, vI v1, vR 165]) (dg dc257 42 rfl) rfl rfl ?_
    refine ex_iald (dg dc257 43 rfl) (LOC.st (Nat.le_of_ble_eq_true rfl) rfl) rfl hf (fun _ hf => ?_)
    refine ex_cI (vs := [vR 165, vI v1, vI (M_22 166 7)]) (st' := []) (F := (mo_otherEnd v1 (M_22 166 7) M_22)) (Or.inr (Or.inl ⟨rfl, (dg dc257 44 rfl)⟩)) rfl rfl (rk1 (LOC.st (Nat.le_of_ble_eq_true rfl) rfl) rfl) rfl (fun _ r9 => mo_otherEnd_ok (Z := Z) (d := e9) (by omega)  r9) hf (fun z_26 M_25 he_24 hf => ?_)
    refine ex_pu (ls' := [vR 165, vI v1, vI z_23, vI z_26]) (st' := []) (dg dc257 45 rfl) rfl rfl ?_
    refine ex_pu (ls' := [vR 165, vI v1, vI z_23, vI z_26]) (st' := [vR 165]) (dg dc257 46 rfl) rfl rfl ?_
    refine ex_getO (dg dc257 47 rfl) rfl (LOC.st (Nat.le_of_ble_eq_true rfl) rfl) rfl ?_
    show EX Z _ 257 _ [vR 165, vI v1, vI z_23, vI z_26] [vR 166] _ _
    refine ex_pu (ls' := [vR 165, vI v1, vI z_23, vI z_26]) (st' := [vI 6, vR 166]) (dg dc257 48 rfl) rfl rfl ?_
    refine ex_pu (ls' := [vR 165, vI v1, vI z_23, vI z_26]) (st' := [vI 6, vR 166, vI 6, vR 166]) (dg dc257 49 rfl) rfl rfl ?_
    refine ex_iald (dg dc257 50 rfl) (LOC.st (Nat.le_of_ble_eq_true rfl) rfl) rfl hf (fun _ hf => ?_)
    refine ex_pu (ls' := [vR 165, vI v1, vI z_23, vI z_26]) (st' := [vI z_23, vI (M_25 166 6), vI 6, vR 166]) (dg dc257 51 rfl) rfl rfl ?_
    refine ex_pu (ls' := [vR 165, vI v1, vI z_23, vI z_26]) (st' := [vI ((M_25 166 6) + z_23), vI 6, vR 166]) (dg dc257 52 rfl) rfl rfl ?_
    refine ex_iast (dg dc257 53 rfl) (LOC.st (Nat.le_of_ble_eq_true rfl) rfl) rfl rfl hf (fun _ hf => ?_)
    refine ex_gen hf (fun M_27 hM_28 hf => ?_)
    refine ex_pu (ls' := [vR 165, vI v1, vI z_23, vI z_26]) (st' := [vR 165]) (dg dc257 54 rfl) rfl rfl ?_
    refine ex_getO (dg dc257 55 rfl) rfl (LOC.st (Nat.le_of_ble_eq_true rfl) rfl) rfl ?_
    show EX Z _ 257 _ [vR 165, vI v1, vI z_23, vI z_26] [vR 166] _ _
    refine ex_pu (ls' := [vR 165, vI v1, vI z_23, vI z_26]) (st' := [vI 7, vR 166]) (dg dc257 56 rfl) rfl rfl ?_
    refine ex_pu (ls' := [vR 165, vI v1, vI z_23, vI z_26]) (st' := [vI z_26, vI 7, vR 166]) (dg dc257 57 rfl) rfl rfl ?_
    refine ex_iast (dg dc257 58 rfl) (LOC.st (Nat.le_of_ble_eq_true rfl) rfl) rfl rfl hf (fun _ hf => ?_)
    refine ex_gen hf (fun M_29 hM_30 hf => ?_)
    refine ex_pu (ls' := [vR 165, vI v1, vI z_23, vI z_26]) (st' := [vR 165]) (dg dc257 59 rfl) rfl rfl ?_
    refine ex_getO (dg dc257 60 rfl) rfl (LOC.st (Nat.le_of_ble_eq_true rfl) rfl) rfl ?_
    show EX Z _ 257 _ [vR 165, vI v1, vI z_23, vI z_26] [vR 166] _ _
    refine ex_pu (ls' := [vR 165, vI v1, vI z_23, vI z_26]) (st' := [vI 8, vR 166]) (dg dc257 61 rfl) rfl rfl ?_
    refine ex_pu (ls' := [vR 165, vI v1, vI z_23, vI z_26]) (st' := [vI v1, vI 8, vR 166]) (dg dc257 62 rfl) rfl rfl ?_
    refine ex_iast (dg dc257 63 rfl) (LOC.st (Nat.le_of_ble_eq_true rfl) rfl) rfl rfl hf (fun _ hf => ?_)
    refine ex_gen hf (fun M_31 hM_32 hf => ?_)
    refine ex_pu (ls' := [vR 165, vI v1, vI z_23, vI z_26]) (st' := [vR 165]) (dg dc257 64 rfl) rfl rfl ?_
    refine ex_getO (dg dc257 65 rfl) rfl (LOC.st (Nat.le_of_ble_eq_true rfl) rfl) rfl ?_
    show EX Z _ 257 _ [vR 165, vI v1, vI z_23, vI z_26] [vR 166] _ _
    refine ex_pu (ls' := [vR 165, vI v1, vI z_23, vI z_26]) (st' := [vI 6, vR 166]) (dg dc257 66 rfl) rfl rfl ?_
    refine ex_iald (dg dc257 67 rfl) (LOC.st (Nat.le_of_ble_eq_true rfl) rfl) rfl hf (fun _ hf => ?_)
    exact ex_ire (dg dc257 68 rfl) rfl hf
  · refine ex_pu (ls' := [vR 165, vI v1, j2, j3]) (st' := [vI 0]) (dg dc257 28 rfl) rfl rfl ?_
    exact ex_ire (dg dc257 29 rfl) rfl hf
def mo_go_J40   (v1 : Int) (M : MM) : OR :=
  (mo_go_J45   v1 1 M)
set_option maxRecDepth 4000 in
theorem mo_go_J40_ok {Z : Nat × (Nat → Int)} {d : Nat} (hd : 6 ≤ d)   {res : AR × MM}  : ∀ (v1 : Int) (M : MM) (j2 j3 : AV), mo_go_J40   v1 M = some res → EX Z d 257 40 [vR 165, vI v1, j2, j3] [vR 165] M res := by
  obtain ⟨e9, rfl⟩ : ∃ e9, d = e9 + 1 := ⟨d - 1, by omega⟩
  intro v1 M j2 j3 hf
  unfold mo_go_J40 at hf
  refine ex_pu (ls' := [vR 165, vI v1, j2, j3]) (st' := [vI 1, vR 165]) (dg dc257 22 rfl) rfl rfl ?_
  refine ex_goto (t := 45) (dg dc257 23 rfl) rfl rfl ?_
  exact mo_go_J45_ok hd   v1 1 M _ _ hf
def mo_go (v1 : Int) (M : MM) : OR :=
  (sM (mU M 165 0 0) fun M_1 => (bI (mo_noRoad v1 M_1) fun z_5 M_4 => (bI (mo_throwsIf z_5 1 M_4) fun z_8 M_7 => (bif cmpB .eq z_8 0 then (bI (mo_places  M_7) fun z_11 M_10 => (bif cmpB .eq z_11 0 then (mo_go_J40   v1 M_10) else (bJ (mo_now  M_10) fun z_35 M_34 => (bI (mo_canGo z_35 v1 M_34) fun z_38 M_37 => (bif cmpB .ne z_38 0 then (mo_go_J45   v1 0 M_37) else (mo_go_J40   v1 M_37)))))) else some (rI 0, M_7)))))
set_option maxRecDepth 4000 in
theorem mo_go_ok {Z : Nat × (Nat → Int)} {d : Nat} (hd : 6 ≤ d) {M : MM}  {v1 : Int} {res : AR × MM} (hf : mo_go v1 M = some res) : EX Z d 257 0 (ent 257 [vR 165, vI v1]) [] M res := by
  obtain ⟨e9, rfl⟩ : ∃ e9, d = e9 + 1 := ⟨d - 1, by omega⟩
  unfold mo_go at hf
  show EX Z _ 257 0 [vR 165, vI v1, vU, vU] [] M res
  refine ex_pu (ls' := [vR 165, vI v1, vU, vU]) (st' := [vR 165]) (dg dc257 0 rfl) rfl rfl ?_
  refine ex_pu (ls' := [vR 165, vI v1, vU, vU]) (st' := [vI 0, vR 165]) (dg dc257 1 rfl) rfl rfl ?_
  refine ex_putI (dg dc257 2 rfl) rfl (LOC.st (Nat.le_of_ble_eq_true rfl) rfl) rfl rfl rfl ?_
  refine ex_gen hf (fun M_1 hM_2 hf => ?_)
  refine ex_pu (ls' := [vR 165, vI v1, vU, vU]) (st' := [vR 165]) (dg dc257 3 rfl) rfl rfl ?_
  refine ex_pu (ls' := [vR 165, vI v1, vU, vU]) (st' := [vR 165, vR 165]) (dg dc257 4 rfl) rfl rfl ?_
  refine ex_pu (ls' := [vR 165, vI v1, vU, vU]) (st' := [vI v1, vR 165, vR 165]) (dg dc257 5 rfl) rfl rfl ?_
  refine ex_cI (vs := [vR 165, vI v1]) (st' := [vR 165]) (F := (mo_noRoad v1 M_1)) (Or.inr (Or.inl ⟨rfl, (dg dc257 6 rfl)⟩)) rfl rfl (rk1 (LOC.st (Nat.le_of_ble_eq_true rfl) rfl) rfl) rfl (fun _ r9 => mo_noRoad_ok (Z := Z) (d := e9) (by omega)  r9) hf (fun z_5 M_4 he_3 hf => ?_)
  refine ex_pu (ls' := [vR 165, vI v1, vU, vU]) (st' := [vI 1, vI z_5, vR 165]) (dg dc257 7 rfl) rfl rfl ?_
  refine ex_cI (vs := [vR 165, vI z_5, vI 1]) (st' := []) (F := (mo_throwsIf z_5 1 M_4)) (Or.inr (Or.inl ⟨rfl, (dg dc257 8 rfl)⟩)) rfl rfl (rk1 (LOC.st (Nat.le_of_ble_eq_true rfl) rfl) rfl) rfl (fun _ r9 => mo_throwsIf_ok (Z := Z) (d := e9) (by omega)  r9) hf (fun z_8 M_7 he_6 hf => ?_)
  refine ex_if (t := 20) (dg dc257 9 rfl) rfl hf (fun _ hf => ?_) (fun _ hf => ?_)
  · refine ex_pu (ls' := [vR 165, vI v1, vU, vU]) (st' := [vR 165]) (dg dc257 12 rfl) rfl rfl ?_
    refine ex_pu (ls' := [vR 165, vI v1, vU, vU]) (st' := [vR 165, vR 165]) (dg dc257 13 rfl) rfl rfl ?_
    refine ex_cI (vs := [vR 165]) (st' := [vR 165]) (F := (mo_places  M_7)) (Or.inr (Or.inl ⟨rfl, (dg dc257 14 rfl)⟩)) rfl rfl (rk1 (LOC.st (Nat.le_of_ble_eq_true rfl) rfl) rfl) rfl (fun _ r9 => mo_places_ok (Z := Z) (d := e9) (by omega)  r9) hf (fun z_11 M_10 he_9 hf => ?_)
    refine ex_if (t := 40) (dg dc257 15 rfl) rfl hf (fun _ hf => ?_) (fun _ hf => ?_)
    · exact mo_go_J40_ok hd   v1 M_10 _ _ hf
    · refine ex_pu (ls' := [vR 165, vI v1, vU, vU]) (st' := [vR 165, vR 165]) (dg dc257 16 rfl) rfl rfl ?_
      refine ex_pu (ls' := [vR 165, vI v1, vU, vU]) (st' := [vR 165, vR 165, vR 165]) (dg dc257 17 rfl) rfl rfl ?_
      refine ex_cJ (vs := [vR 165]) (st' := [vR 165, vR 165]) (F := (mo_now  M_10)) (Or.inr (Or.inl ⟨rfl, (dg dc257 18 rfl)⟩)) rfl rfl (rk1 (LOC.st (Nat.le_of_ble_eq_true rfl) rfl) rfl) rfl (fun _ r9 => mo_now_ok (Z := Z) (d := e9) (by omega)  r9) hf (fun z_35 M_34 he_33 hf => ?_)
      refine ex_pu (ls' := [vR 165, vI v1, vU, vU]) (st' := [vI v1, vJ z_35, vR 165, vR 165]) (dg dc257 19 rfl) rfl rfl ?_
      refine ex_cI (vs := [vR 165, vJ z_35, vI v1]) (st' := [vR 165]) (F := (mo_canGo z_35 v1 M_34)) (Or.inr (Or.inl ⟨rfl, (dg dc257 20 rfl)⟩)) rfl rfl (rk1 (LOC.st (Nat.le_of_ble_eq_true rfl) rfl) rfl) rfl (fun _ r9 => mo_canGo_ok (Z := Z) (d := e9) (by omega)  r9) hf (fun z_38 M_37 he_36 hf => ?_)
      refine ex_if (t := 44) (dg dc257 21 rfl) rfl hf (fun _ hf => ?_) (fun _ hf => ?_)
      · refine ex_pu (ls' := [vR 165, vI v1, vU, vU]) (st' := [vI 0, vR 165]) (dg dc257 24 rfl) rfl rfl ?_
        exact mo_go_J45_ok hd   v1 0 M_37 _ _ hf
      · exact mo_go_J40_ok hd   v1 M_37 _ _ hf
  · refine ex_pu (ls' := [vR 165, vI v1, vU, vU]) (st' := [vI 0]) (dg dc257 10 rfl) rfl rfl ?_
    exact ex_ire (dg dc257 11 rfl) rfl hf
-- GlassHillModel.pay
def il259 : List (Nat × Instr × Nat) := [(0, .aload_n 0, 1), (1, .iconst 0, 1), (2, .putfield 3, 3), (5, .aload_n 0, 1), (6, .aload_n 0, 1), (7, .iload_n 1, 1), (8, .invokevirtual 399, 3), (11, .iconst 1, 1), (12, .invokevirtual 274, 3), (15, .ifCond .eq 5, 3), (18, .iconst 0, 1), (19, .ireturn, 1), (20, .aload_n 0, 1), (21, .aload_n 0, 1), (22, .invokevirtual 411, 3), (25, .iload_n 1, 1), (26, .invokevirtual 422, 3), (29, .lstore_n 2, 1), (30, .aload_n 0, 1), (31, .lload_n 2, 1), (32, .lconst 0, 1), (33, .lcmp, 1), (34, .ifCond .ge 7, 3), (37, .iconst 1, 1), (38, .goto 4, 3), (41, .iconst 0, 1), (42, .iconst 2, 1), (43, .invokevirtual 274, 3), (46, .ifCond .eq 5, 3), (49, .iconst 0, 1), (50, .ireturn, 1), (51, .aload_n 0, 1), (52, .invokevirtual 415, 3), (55, .aload_n 0, 1), (56, .getfield 13, 3), (59, .bipush 7, 2), (61, .iaload, 1), (62, .istore 4, 2), (64, .sipush 236, 3), (67, .iconst 3, 1), (68, .aload_n 0, 1), (69, .getfield 13, 3), (72, .bipush 9, 2), (74, .iaload, 1), (75, .imul, 1), (76, .iadd, 1), (77, .istore 5, 2), (79, .aload_n 0, 1), (80, .getfield 13, 3), (83, .iload 5, 2), (85, .iload 4, 2), (87, .iastore, 1), (88, .aload_n 0, 1), (89, .getfield 13, 3), (92, .iload 5, 2), (94, .iconst 1, 1), (95, .iadd, 1), (96, .iload_n 1, 1), (97, .iastore, 1), (98, .aload_n 0, 1), (99, .getfield 13, 3), (102, .iload 5, 2), (104, .iconst 2, 1), (105, .iadd, 1), (106, .aload_n 0, 1), (107, .getfield 13, 3), (110, .bipush 6, 2), (112, .iaload, 1), (113, .iastore, 1), (114, .aload_n 0, 1), (115, .getfield 13, 3), (118, .bipush 9, 2), (120, .dup2, 1), (121, .iaload, 1), (122, .iconst 1, 1), (123, .iadd, 1), (124, .iastore, 1), (125, .aload_n 0, 1), (126, .lload_n 2, 1), (127, .invokevirtual 426, 3), (130, .aload_n 0, 1), (131, .iload 4, 2), (133, .bipush 6, 2), (135, .invokevirtual 72, 3), (138, .ireturn, 1)]
theorem dc259 : dcs (mC 259) il259 := dc_of (by decide +kernel)
def mo_pay_J42   (v1 v2 s0 : Int) (M : MM) : OR :=
  (bI (mo_throwsIf s0 2 M) fun z_17 M_16 => (bif cmpB .eq z_17 0 then (bV (mo_remembers  M_16) fun M_19 => (bif inB 7 1964 then (bif inB 9 1964 then (bif inB (236 + (3 * (M_19 166 9))) 1964 then (sM (mU M_19 166 ((236 + (3 * (M_19 166 9)))).toNat (M_19 166 7)) fun M_21 => (bif inB ((236 + (3 * (M_19 166 9))) + 1) 1964 then (sM (mU M_21 166 (((236 + (3 * (M_19 166 9))) + 1)).toNat v1) fun M_23 => (bif inB 6 1964 then (bif inB ((236 + (3 * (M_19 166 9))) + 2) 1964 then (sM (mU M_23 166 (((236 + (3 * (M_19 166 9))) + 2)).toNat (M_23 166 6)) fun M_25 => (bif inB 9 1964 then (bif inB 9 1964 then (sM (mU M_25 166 9 ((M_25 166 9) + 1)) fun M_27 => (bV (mo_comes v2 M_27) fun M_30 => (bI (mo_of (M_19 166 7) 6 M_30) fun z_34 M_33 => some (rI z_34, M_33)))) else none) else none)) else none) else none)) else none)) else none) else none) else none)) else some (rI 0, M_16)))
set_option maxRecDepth 4000 in
theorem mo_pay_J42_ok {Z : Nat × (Nat → Int)} {d : Nat} (hd : 4 ≤ d)   {res : AR × MM}  : ∀ (v1 v2 s0 : Int) (M : MM) (j4 j5 : AV), mo_pay_J42   v1 v2 s0 M = some res → EX Z d 259 42 [vR 165, vI v1, vJ v2, vU, j4, j5] [vI s0, vR 165] M res := by
  obtain ⟨e9, rfl⟩ : ∃ e9, d = e9 + 1 := ⟨d - 1, by omega⟩
  intro v1 v2 s0 M j4 j5 hf
  unfold mo_pay_J42 at hf
  refine ex_pu (ls' := [vR 165, vI v1, vJ v2, vU, j4, j5]) (st' := [vI 2, vI s0, vR 165]) (dg dc259 26 rfl) rfl rfl ?_
  refine ex_cI (vs := [vR 165, vI s0, vI 2]) (st' := []) (F := (mo_throwsIf s0 2 M)) (Or.inr (Or.inl ⟨rfl, (dg dc259 27 rfl)⟩)) rfl rfl (rk1 (LOC.st (Nat.le_of_ble_eq_true rfl) rfl) rfl) rfl (fun _ r9 => mo_throwsIf_ok (Z := Z) (d := e9) (by omega)  r9) hf (fun z_17 M_16 he_15 hf => ?_)
  refine ex_if (t := 51) (dg dc259 28 rfl) rfl hf (fun _ hf => ?_) (fun _ hf => ?_)
  · refine ex_pu (ls' := [vR 165, vI v1, vJ v2, vU, j4, j5]) (st' := [vR 165]) (dg dc259 31 rfl) rfl rfl ?_
    refine ex_cV (vs := [vR 165]) (st' := []) (F := (mo_remembers  M_16)) (Or.inr (Or.inl ⟨rfl, (dg dc259 32 rfl)⟩)) rfl rfl (rk1 (LOC.st (Nat.le_of_ble_eq_true rfl) rfl) rfl) rfl (fun _ r9 => mo_remembers_ok (Z := Z) (d := e9) (by omega)  r9) hf (fun M_19 he_18 hf => ?_)
    refine ex_pu (ls' := [vR 165, vI v1, vJ v2, vU, j4, j5]) (st' := [vR 165]) (dg dc259 33 rfl) rfl rfl ?_
    refine ex_getO (dg dc259 34 rfl) rfl (LOC.st (Nat.le_of_ble_eq_true rfl) rfl) rfl ?_
    show EX Z _ 259 _ [vR 165, vI v1, vJ v2, vU, j4, j5] [vR 166] _ _
    refine ex_pu (ls' := [vR 165, vI v1, vJ v2, vU, j4, j5]) (st' := [vI 7, vR 166]) (dg dc259 35 rfl) rfl rfl ?_
    refine ex_iald (dg dc259 36 rfl) (LOC.st (Nat.le_of_ble_eq_true rfl) rfl) rfl hf (fun _ hf => ?_)
    refine ex_pu (ls' := [vR 165, vI v1, vJ v2, vU, vI (M_19 166 7), j5]) (st' := []) (dg dc259 37 rfl) rfl rfl ?_
    refine ex_pu (ls' := [vR 165, vI v1, vJ v2, vU, vI (M_19 166 7), j5]) (st' := [vI 236]) (dg dc259 38 rfl) rfl rfl ?_
    refine ex_pu (ls' := [vR 165, vI v1, vJ v2, vU, vI (M_19 166 7), j5]) (st' := [vI 3, vI 236]) (dg dc259 39 rfl) rfl rfl ?_
    refine ex_pu (ls' := [vR 165, vI v1, vJ v2, vU, vI (M_19 166 7), j5]) (st' := [vR 165, vI 3, vI 236]) (dg dc259 40 rfl) rfl rfl ?_
    refine ex_getO (dg dc259 41 rfl) rfl (LOC.st (Nat.le_of_ble_eq_true rfl) rfl) rfl ?_
    show EX Z _ 259 _ [vR 165, vI v1, vJ v2, vU, vI (M_19 166 7), j5] [vR 166, vI 3, vI 236] _ _
    refine ex_pu (ls' := [vR 165, vI v1, vJ v2, vU, vI (M_19 166 7), j5]) (st' := [vI 9, vR 166, vI 3, vI 236]) (dg dc259 42 rfl) rfl rfl ?_
    refine ex_iald (dg dc259 43 rfl) (LOC.st (Nat.le_of_ble_eq_true rfl) rfl) rfl hf (fun _ hf => ?_)
    refine ex_pu (ls' := [vR 165, vI v1, vJ v2, vU, vI (M_19 166 7), j5]) (st' := [vI (3 * (M_19 166 9)), vI 236]) (dg dc259 44 rfl) rfl rfl ?_
    refine ex_pu (ls' := [vR 165, vI v1, vJ v2, vU, vI (M_19 166 7), j5]) (st' := [vI (236 + (3 * (M_19 166 9)))]) (dg dc259 45 rfl) rfl rfl ?_
    refine ex_pu (ls' := [vR 165, vI v1, vJ v2, vU, vI (M_19 166 7), vI (236 + (3 * (M_19 166 9)))]) (st' := []) (dg dc259 46 rfl) rfl rfl ?_
    refine ex_pu (ls' := [vR 165, vI v1, vJ v2, vU, vI (M_19 166 7), vI (236 + (3 * (M_19 166 9)))]) (st' := [vR 165]) (dg dc259 47 rfl) rfl rfl ?_
    refine ex_getO (dg dc259 48 rfl) rfl (LOC.st (Nat.le_of_ble_eq_true rfl) rfl) rfl ?_
    show EX Z _ 259 _ [vR 165, vI v1, vJ v2, vU, vI (M_19 166 7), vI (236 + (3 * (M_19 166 9)))] [vR 166] _ _
    refine ex_pu (ls' := [vR 165, vI v1, vJ v2, vU, vI (M_19 166 7), vI (236 + (3 * (M_19 166 9)))]) (st' := [vI (236 + (3 * (M_19 166 9))), vR 166]) (dg dc259 49 rfl) rfl rfl ?_
    refine ex_pu (ls' := [vR 165, vI v1, vJ v2, vU, vI (M_19 166 7), vI (236 + (3 * (M_19 166 9)))]) (st' := [vI (M_19 166 7), vI (236 + (3 * (M_19 166 9))), vR 166]) (dg dc259 50 rfl) rfl rfl ?_
    refine ex_iast (dg dc259 51 rfl) (LOC.st (Nat.le_of_ble_eq_true rfl) rfl) rfl rfl hf (fun _ hf => ?_)
    refine ex_gen hf (fun M_21 hM_22 hf => ?_)
    refine ex_pu (ls' := [vR 165, vI v1, vJ v2, vU, vI (M_19 166 7), vI (236 + (3 * (M_19 166 9)))]) (st' := [vR 165]) (dg dc259 52 rfl) rfl rfl ?_
    refine ex_getO (dg dc259 53 rfl) rfl (LOC.st (Nat.le_of_ble_eq_true rfl) rfl) rfl ?_
    show EX Z _ 259 _ [vR 165, vI v1, vJ v2, vU, vI (M_19 166 7), vI (236 + (3 * (M_19 166 9)))] [vR 166] _ _
    refine ex_pu (ls' := [vR 165, vI v1, vJ v2, vU, vI (M_19 166 7), vI (236 + (3 * (M_19 166 9)))]) (st' := [vI (236 + (3 * (M_19 166 9))), vR 166]) (dg dc259 54 rfl) rfl rfl ?_
    refine ex_pu (ls' := [vR 165, vI v1, vJ v2, vU, vI (M_19 166 7), vI (236 + (3 * (M_19 166 9)))]) (st' := [vI 1, vI (236 + (3 * (M_19 166 9))), vR 166]) (dg dc259 55 rfl) rfl rfl ?_
    refine ex_pu (ls' := [vR 165, vI v1, vJ v2, vU, vI (M_19 166 7), vI (236 + (3 * (M_19 166 9)))]) (st' := [vI ((236 + (3 * (M_19 166 9))) + 1), vR 166]) (dg dc259 56 rfl) rfl rfl ?_
    refine ex_pu (ls' := [vR 165, vI v1, vJ v2, vU, vI (M_19 166 7), vI (236 + (3 * (M_19 166 9)))]) (st' := [vI v1, vI ((236 + (3 * (M_19 166 9))) + 1), vR 166]) (dg dc259 57 rfl) rfl rfl ?_
    refine ex_iast (dg dc259 58 rfl) (LOC.st (Nat.le_of_ble_eq_true rfl) rfl) rfl rfl hf (fun _ hf => ?_)
    refine ex_gen hf (fun M_23 hM_24 hf => ?_)
    refine ex_pu (ls' := [vR 165, vI v1, vJ v2, vU, vI (M_19 166 7), vI (236 + (3 * (M_19 166 9)))]) (st' := [vR 165]) (dg dc259 59 rfl) rfl rfl ?_
    refine ex_getO (dg dc259 60 rfl) rfl (LOC.st (Nat.le_of_ble_eq_true rfl) rfl) rfl ?_
    show EX Z _ 259 _ [vR 165, vI v1, vJ v2, vU, vI (M_19 166 7), vI (236 + (3 * (M_19 166 9)))] [vR 166] _ _
    refine ex_pu (ls' := [vR 165, vI v1, vJ v2, vU, vI (M_19 166 7), vI (236 + (3 * (M_19 166 9)))]) (st' := [vI (236 + (3 * (M_19 166 9))), vR 166]) (dg dc259 61 rfl) rfl rfl ?_
    refine ex_pu (ls' := [vR 165, vI v1, vJ v2, vU, vI (M_19 166 7), vI (236 + (3 * (M_19 166 9)))]) (st' := [vI 2, vI (236 + (3 * (M_19 166 9))), vR 166]) (dg dc259 62 rfl) rfl rfl ?_
    refine ex_pu (ls' := [vR 165, vI v1, vJ v2, vU, vI (M_19 166 7), vI (236 + (3 * (M_19 166 9)))]) (st' := [vI ((236 + (3 * (M_19 166 9))) + 2), vR 166]) (dg dc259 63 rfl) rfl rfl ?_
    refine ex_pu (ls' := [vR 165, vI v1, vJ v2, vU, vI (M_19 166 7), vI (236 + (3 * (M_19 166 9)))]) (st' := [vR 165, vI ((236 + (3 * (M_19 166 9))) + 2), vR 166]) (dg dc259 64 rfl) rfl rfl ?_
    refine ex_getO (dg dc259 65 rfl) rfl (LOC.st (Nat.le_of_ble_eq_true rfl) rfl) rfl ?_
    show EX Z _ 259 _ [vR 165, vI v1, vJ v2, vU, vI (M_19 166 7), vI (236 + (3 * (M_19 166 9)))] [vR 166, vI ((236 + (3 * (M_19 166 9))) + 2), vR 166] _ _
    refine ex_pu (ls' := [vR 165, vI v1, vJ v2, vU, vI (M_19 166 7), vI (236 + (3 * (M_19 166 9)))]) (st' := [vI 6, vR 166, vI ((236 + (3 * (M_19 166 9))) + 2), vR 166]) (dg dc259 66 rfl) rfl rfl ?_
    refine ex_iald (dg dc259 67 rfl) (LOC.st (Nat.le_of_ble_eq_true rfl) rfl) rfl hf (fun _ hf => ?_)
    refine ex_iast (dg dc259 68 rfl) (LOC.st (Nat.le_of_ble_eq_true rfl) rfl) rfl rfl hf (fun _ hf => ?_)
    refine ex_gen hf (fun M_25 hM_26 hf => ?_)
    refine ex_pu (ls' := [vR 165, vI v1, vJ v2, vU, vI (M_19 166 7), vI (236 + (3 * (M_19 166 9)))]) (st' := [vR 165]) (dg dc259 69 rfl) rfl rfl ?_
    refine ex_getO (dg dc259 70 rfl) rfl (LOC.st (Nat.le_of_ble_eq_true rfl) rfl) rfl ?_
    show EX Z _ 259 _ [vR 165, vI v1, vJ v2, vU, vI (M_19 166 7), vI (236 + (3 * (M_19 166 9)))] [vR 166] _ _
    refine ex_pu (ls' := [vR 165, vI v1, vJ v2, vU, vI (M_19 166 7), vI (236 + (3 * (M_19 166 9)))]) (st' := [vI 9, vR 166]) (dg dc259 71 rfl) rfl rfl ?_
    refine ex_pu (ls' := [vR 165, vI v1, vJ v2, vU, vI (M_19 166 7), vI (236 + (3 * (M_19 166 9)))]) (st' := [vI 9, vR 166, vI 9, vR 166]) (dg dc259 72 rfl) rfl rfl ?_
    refine ex_iald (dg dc259 73 rfl) (LOC.st (Nat.le_of_ble_eq_true rfl) rfl) rfl hf (fun _ hf => ?_)
    refine ex_pu (ls' := [vR 165, vI v1, vJ v2, vU, vI (M_19 166 7), vI (236 + (3 * (M_19 166 9)))]) (st' := [vI 1, vI (M_25 166 9), vI 9, vR 166]) (dg dc259 74 rfl) rfl rfl ?_
    refine ex_pu (ls' := [vR 165, vI v1, vJ v2, vU, vI (M_19 166 7), vI (236 + (3 * (M_19 166 9)))]) (st' := [vI ((M_25 166 9) + 1), vI 9, vR 166]) (dg dc259 75 rfl) rfl rfl ?_
    refine ex_iast (dg dc259 76 rfl) (LOC.st (Nat.le_of_ble_eq_true rfl) rfl) rfl rfl hf (fun _ hf => ?_)
    refine ex_gen hf (fun M_27 hM_28 hf => ?_)
    refine ex_pu (ls' := [vR 165, vI v1, vJ v2, vU, vI (M_19 166 7), vI (236 + (3 * (M_19 166 9)))]) (st' := [vR 165]) (dg dc259 77 rfl) rfl rfl ?_
    refine ex_pu (ls' := [vR 165, vI v1, vJ v2, vU, vI (M_19 166 7), vI (236 + (3 * (M_19 166 9)))]) (st' := [vJ v2, vR 165]) (dg dc259 78 rfl) rfl rfl ?_
    refine ex_cV (vs := [vR 165, vJ v2]) (st' := []) (F := (mo_comes v2 M_27)) (Or.inr (Or.inl ⟨rfl, (dg dc259 79 rfl)⟩)) rfl rfl (rk1 (LOC.st (Nat.le_of_ble_eq_true rfl) rfl) rfl) rfl (fun _ r9 => mo_comes_ok (Z := Z) (d := e9) (by omega)  r9) hf (fun M_30 he_29 hf => ?_)
    refine ex_pu (ls' := [vR 165, vI v1, vJ v2, vU, vI (M_19 166 7), vI (236 + (3 * (M_19 166 9)))]) (st' := [vR 165]) (dg dc259 80 rfl) rfl rfl ?_
    refine ex_pu (ls' := [vR 165, vI v1, vJ v2, vU, vI (M_19 166 7), vI (236 + (3 * (M_19 166 9)))]) (st' := [vI (M_19 166 7), vR 165]) (dg dc259 81 rfl) rfl rfl ?_
    refine ex_pu (ls' := [vR 165, vI v1, vJ v2, vU, vI (M_19 166 7), vI (236 + (3 * (M_19 166 9)))]) (st' := [vI 6, vI (M_19 166 7), vR 165]) (dg dc259 82 rfl) rfl rfl ?_
    refine ex_cI (vs := [vR 165, vI (M_19 166 7), vI 6]) (st' := []) (F := (mo_of (M_19 166 7) 6 M_30)) (Or.inr (Or.inl ⟨rfl, (dg dc259 83 rfl)⟩)) rfl rfl (rk1 (LOC.st (Nat.le_of_ble_eq_true rfl) rfl) rfl) rfl (fun _ r9 => mo_of_ok (Z := Z) (d := e9) (by omega)  r9) hf (fun z_34 M_33 he_32 hf => ?_)
    exact ex_ire (dg dc259 84 rfl) rfl hf
  · refine ex_pu (ls' := [vR 165, vI v1, vJ v2, vU, j4, j5]) (st' := [vI 0]) (dg dc259 29 rfl) rfl rfl ?_
    exact ex_ire (dg dc259 30 rfl) rfl hf
def mo_pay (v1 : Int) (M : MM) : OR :=
  (sM (mU M 165 0 0) fun M_1 => (bI (mo_noThing v1 M_1) fun z_5 M_4 => (bI (mo_throwsIf z_5 1 M_4) fun z_8 M_7 => (bif cmpB .eq z_8 0 then (bJ (mo_now  M_7) fun z_11 M_10 => (bJ (mo_pays z_11 v1 M_10) fun z_14 M_13 => (bif cmpB .ge (lCmp z_14 0) 0 then (mo_pay_J42   v1 z_14 0 M_13) else (mo_pay_J42   v1 z_14 1 M_13)))) else some (rI 0, M_7)))))
set_option maxRecDepth 4000 in
theorem mo_pay_ok {Z : Nat × (Nat → Int)} {d : Nat} (hd : 4 ≤ d) {M : MM}  {v1 : Int} {res : AR × MM} (hf : mo_pay v1 M = some res) : EX Z d 259 0 (ent 259 [vR 165, vI v1]) [] M res := by
  obtain ⟨e9, rfl⟩ : ∃ e9, d = e9 + 1 := ⟨d - 1, by omega⟩
  unfold mo_pay at hf
  show EX Z _ 259 0 [vR 165, vI v1, vU, vU, vU, vU] [] M res
  refine ex_pu (ls' := [vR 165, vI v1, vU, vU, vU, vU]) (st' := [vR 165]) (dg dc259 0 rfl) rfl rfl ?_
  refine ex_pu (ls' := [vR 165, vI v1, vU, vU, vU, vU]) (st' := [vI 0, vR 165]) (dg dc259 1 rfl) rfl rfl ?_
  refine ex_putI (dg dc259 2 rfl) rfl (LOC.st (Nat.le_of_ble_eq_true rfl) rfl) rfl rfl rfl ?_
  refine ex_gen hf (fun M_1 hM_2 hf => ?_)
  refine ex_pu (ls' := [vR 165, vI v1, vU, vU, vU, vU]) (st' := [vR 165]) (dg dc259 3 rfl) rfl rfl ?_
  refine ex_pu (ls' := [vR 165, vI v1, vU, vU, vU, vU]) (st' := [vR 165, vR 165]) (dg dc259 4 rfl) rfl rfl ?_
  refine ex_pu (ls' := [vR 165, vI v1, vU, vU, vU, vU]) (st' := [vI v1, vR 165, vR 165]) (dg dc259 5 rfl) rfl rfl ?_
  refine ex_cI (vs := [vR 165, vI v1]) (st' := [vR 165]) (F := (mo_noThing v1 M_1)) (Or.inr (Or.inl ⟨rfl, (dg dc259 6 rfl)⟩)) rfl rfl (rk1 (LOC.st (Nat.le_of_ble_eq_true rfl) rfl) rfl) rfl (fun _ r9 => mo_noThing_ok (Z := Z) (d := e9) (by omega)  r9) hf (fun z_5 M_4 he_3 hf => ?_)
  refine ex_pu (ls' := [vR 165, vI v1, vU, vU, vU, vU]) (st' := [vI 1, vI z_5, vR 165]) (dg dc259 7 rfl) rfl rfl ?_
  refine ex_cI (vs := [vR 165, vI z_5, vI 1]) (st' := []) (F := (mo_throwsIf z_5 1 M_4)) (Or.inr (Or.inl ⟨rfl, (dg dc259 8 rfl)⟩)) rfl rfl (rk1 (LOC.st (Nat.le_of_ble_eq_true rfl) rfl) rfl) rfl (fun _ r9 => mo_throwsIf_ok (Z := Z) (d := e9) (by omega)  r9) hf (fun z_8 M_7 he_6 hf => ?_)
  refine ex_if (t := 20) (dg dc259 9 rfl) rfl hf (fun _ hf => ?_) (fun _ hf => ?_)
  · refine ex_pu (ls' := [vR 165, vI v1, vU, vU, vU, vU]) (st' := [vR 165]) (dg dc259 12 rfl) rfl rfl ?_
    refine ex_pu (ls' := [vR 165, vI v1, vU, vU, vU, vU]) (st' := [vR 165, vR 165]) (dg dc259 13 rfl) rfl rfl ?_
    refine ex_cJ (vs := [vR 165]) (st' := [vR 165]) (F := (mo_now  M_7)) (Or.inr (Or.inl ⟨rfl, (dg dc259 14 rfl)⟩)) rfl rfl (rk1 (LOC.st (Nat.le_of_ble_eq_true rfl) rfl) rfl) rfl (fun _ r9 => mo_now_ok (Z := Z) (d := e9) (by omega)  r9) hf (fun z_11 M_10 he_9 hf => ?_)
    refine ex_pu (ls' := [vR 165, vI v1, vU, vU, vU, vU]) (st' := [vI v1, vJ z_11, vR 165]) (dg dc259 15 rfl) rfl rfl ?_
    refine ex_cJ (vs := [vR 165, vJ z_11, vI v1]) (st' := []) (F := (mo_pays z_11 v1 M_10)) (Or.inr (Or.inl ⟨rfl, (dg dc259 16 rfl)⟩)) rfl rfl (rk1 (LOC.st (Nat.le_of_ble_eq_true rfl) rfl) rfl) rfl (fun _ r9 => mo_pays_ok (Z := Z) (d := e9) (by omega)  r9) hf (fun z_14 M_13 he_12 hf => ?_)
    refine ex_pu (ls' := [vR 165, vI v1, vJ z_14, vU, vU, vU]) (st' := []) (dg dc259 17 rfl) rfl rfl ?_
    refine ex_pu (ls' := [vR 165, vI v1, vJ z_14, vU, vU, vU]) (st' := [vR 165]) (dg dc259 18 rfl) rfl rfl ?_
    refine ex_pu (ls' := [vR 165, vI v1, vJ z_14, vU, vU, vU]) (st' := [vJ z_14, vR 165]) (dg dc259 19 rfl) rfl rfl ?_
    refine ex_pu (ls' := [vR 165, vI v1, vJ z_14, vU, vU, vU]) (st' := [vJ 0, vJ z_14, vR 165]) (dg dc259 20 rfl) rfl rfl ?_
    refine ex_pu (ls' := [vR 165, vI v1, vJ z_14, vU, vU, vU]) (st' := [vI (lCmp z_14 0), vR 165]) (dg dc259 21 rfl) rfl rfl ?_
    refine ex_if (t := 41) (dg dc259 22 rfl) rfl hf (fun _ hf => ?_) (fun _ hf => ?_)
    · refine ex_pu (ls' := [vR 165, vI v1, vJ z_14, vU, vU, vU]) (st' := [vI 0, vR 165]) (dg dc259 25 rfl) rfl rfl ?_
      exact mo_pay_J42_ok hd   v1 z_14 0 M_13 _ _ hf
    · refine ex_pu (ls' := [vR 165, vI v1, vJ z_14, vU, vU, vU]) (st' := [vI 1, vR 165]) (dg dc259 23 rfl) rfl rfl ?_
      refine ex_goto (t := 42) (dg dc259 24 rfl) rfl rfl ?_
      exact mo_pay_J42_ok hd   v1 z_14 1 M_13 _ _ hf
  · refine ex_pu (ls' := [vR 165, vI v1, vU, vU, vU, vU]) (st' := [vI 0]) (dg dc259 10 rfl) rfl rfl ?_
    exact ex_ire (dg dc259 11 rfl) rfl hf
-- GlassHillModel.take
def il260 : List (Nat × Instr × Nat) := [(0, .aload_n 0, 1), (1, .iconst 0, 1), (2, .putfield 3, 3), (5, .aload_n 0, 1), (6, .aload_n 0, 1), (7, .iload_n 1, 1), (8, .invokevirtual 399, 3), (11, .iconst 1, 1), (12, .invokevirtual 274, 3), (15, .ifCond .eq 5, 3), (18, .iconst 0, 1), (19, .ireturn, 1), (20, .aload_n 0, 1), (21, .aload_n 0, 1), (22, .invokevirtual 411, 3), (25, .iload_n 1, 1), (26, .invokevirtual 430, 3), (29, .lstore_n 2, 1), (30, .aload_n 0, 1), (31, .lload_n 2, 1), (32, .lconst 0, 1), (33, .lcmp, 1), (34, .ifCond .ge 7, 3), (37, .iconst 1, 1), (38, .goto 4, 3), (41, .iconst 0, 1), (42, .iconst 2, 1), (43, .invokevirtual 274, 3), (46, .ifCond .eq 5, 3), (49, .iconst 0, 1), (50, .ireturn, 1), (51, .aload_n 0, 1), (52, .invokevirtual 415, 3), (55, .aload_n 0, 1), (56, .lload_n 2, 1), (57, .invokevirtual 426, 3), (60, .aload_n 0, 1), (61, .lload_n 2, 1), (62, .iconst 2, 1), (63, .invokevirtual 358, 3), (66, .invokestatic 361, 3), (69, .ireturn, 1)]
theorem dc260 : dcs (mC 260) il260 := dc_of (by decide +kernel)
def mo_take (v1 : Int) (M : MM) : OR :=
  (sM (mU M 165 0 0) fun M_1 => (bI (mo_noThing v1 M_1) fun z_5 M_4 => (bI (mo_throwsIf z_5 1 M_4) fun z_8 M_7 => (bif cmpB .eq z_8 0 then (bJ (mo_now  M_7) fun z_11 M_10 => (bJ (mo_takes z_11 v1 M_10) fun z_14 M_13 => (bif cmpB .ge (lCmp z_14 0) 0 then (bI (mo_throwsIf 0 2 M_13) fun z_17 M_16 => (bif cmpB .eq z_17 0 then (bV (mo_remembers  M_16) fun M_19 => (bV (mo_comes z_14 M_19) fun M_22 => (bI (mo_thingsIn z_14 2 M_22) fun z_26 M_25 => (bI (jdk_bitCount z_26 M_25) fun z_29 M_28 => some (rI z_29, M_28))))) else some (rI 0, M_16))) else (bI (mo_throwsIf 1 2 M_13) fun z_32 M_31 => (bif cmpB .eq z_32 0 then (bV (mo_remembers  M_31) fun M_34 => (bV (mo_comes z_14 M_34) fun M_37 => (bI (mo_thingsIn z_14 2 M_37) fun z_41 M_40 => (bI (jdk_bitCount z_41 M_40) fun z_44 M_43 => some (rI z_44, M_43))))) else some (rI 0, M_31)))))) else some (rI 0, M_7)))))
set_option maxRecDepth 4000 in
theorem mo_take_ok {Z : Nat × (Nat → Int)} {d : Nat} (hd : 4 ≤ d) {M : MM}  {v1 : Int} {res : AR × MM} (hf : mo_take v1 M = some res) : EX Z d 260 0 (ent 260 [vR 165, vI v1]) [] M res := by
  obtain ⟨e9, rfl⟩ : ∃ e9, d = e9 + 1 := ⟨d - 1, by omega⟩
  unfold mo_take at hf
  show EX Z _ 260 0 [vR 165, vI v1, vU, vU] [] M res
  refine ex_pu (ls' := [vR 165, vI v1, vU, vU]) (st' := [vR 165]) (dg dc260 0 rfl) rfl rfl ?_
  refine ex_pu (ls' := [vR 165, vI v1, vU, vU]) (st' := [vI 0, vR 165]) (dg dc260 1 rfl) rfl rfl ?_
  refine ex_putI (dg dc260 2 rfl) rfl (LOC.st (Nat.le_of_ble_eq_true rfl) rfl) rfl rfl rfl ?_
  refine ex_gen hf (fun M_1 hM_2 hf => ?_)
  refine ex_pu (ls' := [vR 165, vI v1, vU, vU]) (st' := [vR 165]) (dg dc260 3 rfl) rfl rfl ?_
  refine ex_pu (ls' := [vR 165, vI v1, vU, vU]) (st' := [vR 165, vR 165]) (dg dc260 4 rfl) rfl rfl ?_
  refine ex_pu (ls' := [vR 165, vI v1, vU, vU]) (st' := [vI v1, vR 165, vR 165]) (dg dc260 5 rfl) rfl rfl ?_
  refine ex_cI (vs := [vR 165, vI v1]) (st' := [vR 165]) (F := (mo_noThing v1 M_1)) (Or.inr (Or.inl ⟨rfl, (dg dc260 6 rfl)⟩)) rfl rfl (rk1 (LOC.st (Nat.le_of_ble_eq_true rfl) rfl) rfl) rfl (fun _ r9 => mo_noThing_ok (Z := Z) (d := e9) (by omega)  r9) hf (fun z_5 M_4 he_3 hf => ?_)
  refine ex_pu (ls' := [vR 165, vI v1, vU, vU]) (st' := [vI 1, vI z_5, vR 165]) (dg dc260 7 rfl) rfl rfl ?_
  refine ex_cI (vs := [vR 165, vI z_5, vI 1]) (st' := []) (F := (mo_throwsIf z_5 1 M_4)) (Or.inr (Or.inl ⟨rfl, (dg dc260 8 rfl)⟩)) rfl rfl (rk1 (LOC.st (Nat.le_of_ble_eq_true rfl) rfl) rfl) rfl (fun _ r9 => mo_throwsIf_ok (Z := Z) (d := e9) (by omega)  r9) hf (fun z_8 M_7 he_6 hf => ?_)
  refine ex_if (t := 20) (dg dc260 9 rfl) rfl hf (fun _ hf => ?_) (fun _ hf => ?_)
  · refine ex_pu (ls' := [vR 165, vI v1, vU, vU]) (st' := [vR 165]) (dg dc260 12 rfl) rfl rfl ?_
    refine ex_pu (ls' := [vR 165, vI v1, vU, vU]) (st' := [vR 165, vR 165]) (dg dc260 13 rfl) rfl rfl ?_
    refine ex_cJ (vs := [vR 165]) (st' := [vR 165]) (F := (mo_now  M_7)) (Or.inr (Or.inl ⟨rfl, (dg dc260 14 rfl)⟩)) rfl rfl (rk1 (LOC.st (Nat.le_of_ble_eq_true rfl) rfl) rfl) rfl (fun _ r9 => mo_now_ok (Z := Z) (d := e9) (by omega)  r9) hf (fun z_11 M_10 he_9 hf => ?_)
    refine ex_pu (ls' := [vR 165, vI v1, vU, vU]) (st' := [vI v1, vJ z_11, vR 165]) (dg dc260 15 rfl) rfl rfl ?_
    refine ex_cJ (vs := [vR 165, vJ z_11, vI v1]) (st' := []) (F := (mo_takes z_11 v1 M_10)) (Or.inr (Or.inl ⟨rfl, (dg dc260 16 rfl)⟩)) rfl rfl (rk1 (LOC.st (Nat.le_of_ble_eq_true rfl) rfl) rfl) rfl (fun _ r9 => mo_takes_ok (Z := Z) (d := e9) (by omega)  r9) hf (fun z_14 M_13 he_12 hf => ?_)
    refine ex_pu (ls' := [vR 165, vI v1, vJ z_14, vU]) (st' := []) (dg dc260 17 rfl) rfl rfl ?_
    refine ex_pu (ls' := [vR 165, vI v1, vJ z_14, vU]) (st' := [vR 165]) (dg dc260 18 rfl) rfl rfl ?_
    refine ex_pu (ls' := [vR 165, vI v1, vJ z_14, vU]) (st' := [vJ z_14, vR 165]) (dg dc260 19 rfl) rfl rfl ?_
    refine ex_pu (ls' := [vR 165, vI v1, vJ z_14, vU]) (st' := [vJ 0, vJ z_14, vR 165]) (dg dc260 20 rfl) rfl rfl ?_
    refine ex_pu (ls' := [vR 165, vI v1, vJ z_14, vU]) (st' := [vI (lCmp z_14 0), vR 165]) (dg dc260 21 rfl) rfl rfl ?_
    refine ex_if (t := 41) (dg dc260 22 rfl) rfl hf (fun _ hf => ?_) (fun _ hf => ?_)
    · refine ex_pu (ls' := [vR 165, vI v1, vJ z_14, vU]) (st' := [vI 0, vR 165]) (dg dc260 25 rfl) rfl rfl ?_
      refine ex_pu (ls' := [vR 165, vI v1, vJ z_14, vU]) (st' := [vI 2, vI 0, vR 165]) (dg dc260 26 rfl) rfl rfl ?_
      refine ex_cI (vs := [vR 165, vI 0, vI 2]) (st' := []) (F := (mo_throwsIf 0 2 M_13)) (Or.inr (Or.inl ⟨rfl, (dg dc260 27 rfl)⟩)) rfl rfl (rk1 (LOC.st (Nat.le_of_ble_eq_true rfl) rfl) rfl) rfl (fun _ r9 => mo_throwsIf_ok (Z := Z) (d := e9) (by omega)  r9) hf (fun z_17 M_16 he_15 hf => ?_)
      refine ex_if (t := 51) (dg dc260 28 rfl) rfl hf (fun _ hf => ?_) (fun _ hf => ?_)
      · refine ex_pu (ls' := [vR 165, vI v1, vJ z_14, vU]) (st' := [vR 165]) (dg dc260 31 rfl) rfl rfl ?_
        refine ex_cV (vs := [vR 165]) (st' := []) (F := (mo_remembers  M_16)) (Or.inr (Or.inl ⟨rfl, (dg dc260 32 rfl)⟩)) rfl rfl (rk1 (LOC.st (Nat.le_of_ble_eq_true rfl) rfl) rfl) rfl (fun _ r9 => mo_remembers_ok (Z := Z) (d := e9) (by omega)  r9) hf (fun M_19 he_18 hf => ?_)
        refine ex_pu (ls' := [vR 165, vI v1, vJ z_14, vU]) (st' := [vR 165]) (dg dc260 33 rfl) rfl rfl ?_
        refine ex_pu (ls' := [vR 165, vI v1, vJ z_14, vU]) (st' := [vJ z_14, vR 165]) (dg dc260 34 rfl) rfl rfl ?_
        refine ex_cV (vs := [vR 165, vJ z_14]) (st' := []) (F := (mo_comes z_14 M_19)) (Or.inr (Or.inl ⟨rfl, (dg dc260 35 rfl)⟩)) rfl rfl (rk1 (LOC.st (Nat.le_of_ble_eq_true rfl) rfl) rfl) rfl (fun _ r9 => mo_comes_ok (Z := Z) (d := e9) (by omega)  r9) hf (fun M_22 he_21 hf => ?_)
        refine ex_pu (ls' := [vR 165, vI v1, vJ z_14, vU]) (st' := [vR 165]) (dg dc260 36 rfl) rfl rfl ?_
        refine ex_pu (ls' := [vR 165, vI v1, vJ z_14, vU]) (st' := [vJ z_14, vR 165]) (dg dc260 37 rfl) rfl rfl ?_
        refine ex_pu (ls' := [vR 165, vI v1, vJ z_14, vU]) (st' := [vI 2, vJ z_14, vR 165]) (dg dc260 38 rfl) rfl rfl ?_
        refine ex_cI (vs := [vR 165, vJ z_14, vI 2]) (st' := []) (F := (mo_thingsIn z_14 2 M_22)) (Or.inr (Or.inl ⟨rfl, (dg dc260 39 rfl)⟩)) rfl rfl (rk1 (LOC.st (Nat.le_of_ble_eq_true rfl) rfl) rfl) rfl (fun _ r9 => mo_thingsIn_ok (Z := Z) (d := e9) (by omega)  r9) hf (fun z_26 M_25 he_24 hf => ?_)
        refine ex_cI (vs := [vI z_26]) (st' := []) (F := (jdk_bitCount z_26 M_25)) (Or.inl ⟨rfl, (dg dc260 40 rfl)⟩) rfl rfl (Or.inl rfl) rfl (fun _ r9 => jdk_bitCount_ok (Z := Z) (d := e9) (by omega)  r9) hf (fun z_29 M_28 he_27 hf => ?_)
        exact ex_ire (dg dc260 41 rfl) rfl hf
      · refine ex_pu (ls' := [vR 165, vI v1, vJ z_14, vU]) (st' := [vI 0]) (dg dc260 29 rfl) rfl rfl ?_
        exact ex_ire (dg dc260 30 rfl) rfl hf
    · refine ex_pu (ls' := [vR 165, vI v1, vJ z_14, vU]) (st' := [vI 1, vR 165]) (dg dc260 23 rfl) rfl rfl ?_
      refine ex_goto (t := 42) (dg dc260 24 rfl) rfl rfl ?_
      refine ex_pu (ls' := [vR 165, vI v1, vJ z_14, vU]) (st' := [vI 2, vI 1, vR 165]) (dg dc260 26 rfl) rfl rfl ?_
      refine ex_cI (vs := [vR 165, vI 1, vI 2]) (st' := []) (F := (mo_throwsIf 1 2 M_13)) (Or.inr (Or.inl ⟨rfl, (dg dc260 27 rfl)⟩)) rfl rfl (rk1 (LOC.st (Nat.le_of_ble_eq_true rfl) rfl) rfl) rfl (fun _ r9 => mo_throwsIf_ok (Z := Z) (d := e9) (by omega)  r9) hf (fun z_32 M_31 he_30 hf => ?_)
      refine ex_if (t := 51) (dg dc260 28 rfl) rfl hf (fun _ hf => ?_) (fun _ hf => ?_)
      · refine ex_pu (ls' := [vR 165, vI v1, vJ z_14, vU]) (st' := [vR 165]) (dg dc260 31 rfl) rfl rfl ?_
        refine ex_cV (vs := [vR 165]) (st' := []) (F := (mo_remembers  M_31)) (Or.inr (Or.inl ⟨rfl, (dg dc260 32 rfl)⟩)) rfl rfl (rk1 (LOC.st (Nat.le_of_ble_eq_true rfl) rfl) rfl) rfl (fun _ r9 => mo_remembers_ok (Z := Z) (d := e9) (by omega)  r9) hf (fun M_34 he_33 hf => ?_)
        refine ex_pu (ls' := [vR 165, vI v1, vJ z_14, vU]) (st' := [vR 165]) (dg dc260 33 rfl) rfl rfl ?_
        refine ex_pu (ls' := [vR 165, vI v1, vJ z_14, vU]) (st' := [vJ z_14, vR 165]) (dg dc260 34 rfl) rfl rfl ?_
        refine ex_cV (vs := [vR 165, vJ z_14]) (st' := []) (F := (mo_comes z_14 M_34)) (Or.inr (Or.inl ⟨rfl, (dg dc260 35 rfl)⟩)) rfl rfl (rk1 (LOC.st (Nat.le_of_ble_eq_true rfl) rfl) rfl) rfl (fun _ r9 => mo_comes_ok (Z := Z) (d := e9) (by omega)  r9) hf (fun M_37 he_36 hf => ?_)
        refine ex_pu (ls' := [vR 165, vI v1, vJ z_14, vU]) (st' := [vR 165]) (dg dc260 36 rfl) rfl rfl ?_
        refine ex_pu (ls' := [vR 165, vI v1, vJ z_14, vU]) (st' := [vJ z_14, vR 165]) (dg dc260 37 rfl) rfl rfl ?_
        refine ex_pu (ls' := [vR 165, vI v1, vJ z_14, vU]) (st' := [vI 2, vJ z_14, vR 165]) (dg dc260 38 rfl) rfl rfl ?_
        refine ex_cI (vs := [vR 165, vJ z_14, vI 2]) (st' := []) (F := (mo_thingsIn z_14 2 M_37)) (Or.inr (Or.inl ⟨rfl, (dg dc260 39 rfl)⟩)) rfl rfl (rk1 (LOC.st (Nat.le_of_ble_eq_true rfl) rfl) rfl) rfl (fun _ r9 => mo_thingsIn_ok (Z := Z) (d := e9) (by omega)  r9) hf (fun z_41 M_40 he_39 hf => ?_)
        refine ex_cI (vs := [vI z_41]) (st' := []) (F := (jdk_bitCount z_41 M_40)) (Or.inl ⟨rfl, (dg dc260 40 rfl)⟩) rfl rfl (Or.inl rfl) rfl (fun _ r9 => jdk_bitCount_ok (Z := Z) (d := e9) (by omega)  r9) hf (fun z_44 M_43 he_42 hf => ?_)
        exact ex_ire (dg dc260 41 rfl) rfl hf
      · refine ex_pu (ls' := [vR 165, vI v1, vJ z_14, vU]) (st' := [vI 0]) (dg dc260 29 rfl) rfl rfl ?_
        exact ex_ire (dg dc260 30 rfl) rfl hf
  · refine ex_pu (ls' := [vR 165, vI v1, vU, vU]) (st' := [vI 0]) (dg dc260 10 rfl) rfl rfl ?_
    exact ex_ire (dg dc260 11 rfl) rfl hf
-- GlassHillModel.lay
def il261 : List (Nat × Instr × Nat) := [(0, .aload_n 0, 1), (1, .iconst 0, 1), (2, .putfield 3, 3), (5, .aload_n 0, 1), (6, .aload_n 0, 1), (7, .iload_n 1, 1), (8, .invokevirtual 399, 3), (11, .iconst 1, 1), (12, .invokevirtual 274, 3), (15, .ifCond .ne 26, 3), (18, .aload_n 0, 1), (19, .aload_n 0, 1), (20, .iload_n 1, 1), (21, .iconst 2, 1), (22, .invokevirtual 290, 3), (25, .iconst 2, 1), (26, .if_icmp .eq 7, 3), (29, .iconst 1, 1), (30, .goto 4, 3), (33, .iconst 0, 1), (34, .iconst 2, 1), (35, .invokevirtual 274, 3), (38, .ifCond .eq 5, 3), (41, .iconst 0, 1), (42, .ireturn, 1), (43, .aload_n 0, 1), (44, .invokevirtual 415, 3), (47, .aload_n 0, 1), (48, .getfield 13, 3), (51, .bipush 90, 2), (53, .iconst 4, 1), (54, .iload_n 1, 1), (55, .imul, 1), (56, .iadd, 1), (57, .iconst 2, 1), (58, .iadd, 1), (59, .iconst 0, 1), (60, .iastore, 1), (61, .aload_n 0, 1), (62, .getfield 13, 3), (65, .bipush 90, 2), (67, .iconst 4, 1), (68, .iload_n 1, 1), (69, .imul, 1), (70, .iadd, 1), (71, .iconst 3, 1), (72, .iadd, 1), (73, .aload_n 0, 1), (74, .getfield 13, 3), (77, .bipush 7, 2), (79, .iaload, 1), (80, .iastore, 1), (81, .aload_n 0, 1), (82, .aload_n 0, 1), (83, .invokevirtual 411, 3), (86, .iconst 2, 1), (87, .invokevirtual 358, 3), (90, .invokestatic 361, 3), (93, .ireturn, 1)]
theorem dc261 : dcs (mC 261) il261 := dc_of (by decide +kernel)
def mo_lay_J34   (v1 s0 : Int) (M : MM) : OR :=
  (bI (mo_throwsIf s0 2 M) fun z_14 M_13 => (bif cmpB .eq z_14 0 then (bV (mo_remembers  M_13) fun M_16 => (bif inB ((90 + (4 * v1)) + 2) 1964 then (sM (mU M_16 166 (((90 + (4 * v1)) + 2)).toNat 0) fun M_18 => (bif inB 7 1964 then (bif inB ((90 + (4 * v1)) + 3) 1964 then (sM (mU M_18 166 (((90 + (4 * v1)) + 3)).toNat (M_18 166 7)) fun M_20 => (bJ (mo_now  M_20) fun z_24 M_23 => (bI (mo_thingsIn z_24 2 M_23) fun z_27 M_26 => (bI (jdk_bitCount z_27 M_26) fun z_30 M_29 => some (rI z_30, M_29))))) else none) else none)) else none)) else some (rI 0, M_13)))
set_option maxRecDepth 4000 in
theorem mo_lay_J34_ok {Z : Nat × (Nat → Int)} {d : Nat} (hd : 3 ≤ d)   {res : AR × MM}  : ∀ (v1 s0 : Int) (M : MM), mo_lay_J34   v1 s0 M = some res → EX Z d 261 34 [vR 165, vI v1] [vI s0, vR 165] M res := by
  obtain ⟨e9, rfl⟩ : ∃ e9, d = e9 + 1 := ⟨d - 1, by omega⟩
  intro v1 s0 M hf
  unfold mo_lay_J34 at hf
  refine ex_pu (ls' := [vR 165, vI v1]) (st' := [vI 2, vI s0, vR 165]) (dg dc261 20 rfl) rfl rfl ?_
  refine ex_cI (vs := [vR 165, vI s0, vI 2]) (st' := []) (F := (mo_throwsIf s0 2 M)) (Or.inr (Or.inl ⟨rfl, (dg dc261 21 rfl)⟩)) rfl rfl (rk1 (LOC.st (Nat.le_of_ble_eq_true rfl) rfl) rfl) rfl (fun _ r9 => mo_throwsIf_ok (Z := Z) (d := e9) (by omega)  r9) hf (fun z_14 M_13 he_12 hf => ?_)
  refine ex_if (t := 43) (dg dc261 22 rfl) rfl hf (fun _ hf => ?_) (fun _ hf => ?_)
  · refine ex_pu (ls' := [vR 165, vI v1]) (st' := [vR 165]) (dg dc261 25 rfl) rfl rfl ?_
    refine ex_cV (vs := [vR 165]) (st' := []) (F := (mo_remembers  M_13)) (Or.inr (Or.inl ⟨rfl, (dg dc261 26 rfl)⟩)) rfl rfl (rk1 (LOC.st (Nat.le_of_ble_eq_true rfl) rfl) rfl) rfl (fun _ r9 => mo_remembers_ok (Z := Z) (d := e9) (by omega)  r9) hf (fun M_16 he_15 hf => ?_)
    refine ex_pu (ls' := [vR 165, vI v1]) (st' := [vR 165]) (dg dc261 27 rfl) rfl rfl ?_
    refine ex_getO (dg dc261 28 rfl) rfl (LOC.st (Nat.le_of_ble_eq_true rfl) rfl) rfl ?_
    show EX Z _ 261 _ [vR 165, vI v1] [vR 166] _ _
    refine ex_pu (ls' := [vR 165, vI v1]) (st' := [vI 90, vR 166]) (dg dc261 29 rfl) rfl rfl ?_
    refine ex_pu (ls' := [vR 165, vI v1]) (st' := [vI 4, vI 90, vR 166]) (dg dc261 30 rfl) rfl rfl ?_
    refine ex_pu (ls' := [vR 165, vI v1]) (st' := [vI v1, vI 4, vI 90, vR 166]) (dg dc261 31 rfl) rfl rfl ?_
    refine ex_pu (ls' := [vR 165, vI v1]) (st' := [vI (4 * v1), vI 90, vR 166]) (dg dc261 32 rfl) rfl rfl ?_
    refine ex_pu (ls' := [vR 165, vI v1]) (st' := [vI (90 + (4 * v1)), vR 166]) (dg dc261 33 rfl) rfl rfl ?_
    refine ex_pu (ls' := [vR 165, vI v1]) (st' := [vI 2, vI (90 + (4 * v1)), vR 166]) (dg dc261 34 rfl) rfl rfl ?_
    refine ex_pu (ls' := [vR 165, vI v1]) (st' := [vI ((90 + (4 * v1)) + 2), vR 166]) (dg dc261 35 rfl) rfl rfl ?_
    refine ex_pu (ls' := [vR 165, vI v1]) (st' := [vI 0, vI ((90 + (4 * v1)) + 2), vR 166]) (dg dc261 36 rfl) rfl rfl ?_
    refine ex_iast (dg dc261 37 rfl) (LOC.st (Nat.le_of_ble_eq_true rfl) rfl) rfl rfl hf (fun _ hf => ?_)
    refine ex_gen hf (fun M_18 hM_19 hf => ?_)
    refine ex_pu (ls' := [vR 165, vI v1]) (st' := [vR 165]) (dg dc261 38 rfl) rfl rfl ?_
    refine ex_getO (dg dc261 39 rfl) rfl (LOC.st (Nat.le_of_ble_eq_true rfl) rfl) rfl ?_
    show EX Z _ 261 _ [vR 165, vI v1] [vR 166] _ _
    refine ex_pu (ls' := [vR 165, vI v1]) (st' := [vI 90, vR 166]) (dg dc261 40 rfl) rfl rfl ?_
    refine ex_pu (ls' := [vR 165, vI v1]) (st' := [vI 4, vI 90, vR 166]) (dg dc261 41 rfl) rfl rfl ?_
    refine ex_pu (ls' := [vR 165, vI v1]) (st' := [vI v1, vI 4, vI 90, vR 166]) (dg dc261 42 rfl) rfl rfl ?_
    refine ex_pu (ls' := [vR 165, vI v1]) (st' := [vI (4 * v1), vI 90, vR 166]) (dg dc261 43 rfl) rfl rfl ?_
    refine ex_pu (ls' := [vR 165, vI v1]) (st' := [vI (90 + (4 * v1)), vR 166]) (dg dc261 44 rfl) rfl rfl ?_
    refine ex_pu (ls' := [vR 165, vI v1]) (st' := [vI 3, vI (90 + (4 * v1)), vR 166]) (dg dc261 45 rfl) rfl rfl ?_
    refine ex_pu (ls' := [vR 165, vI v1]) (st' := [vI ((90 + (4 * v1)) + 3), vR 166]) (dg dc261 46 rfl) rfl rfl ?_
    refine ex_pu (ls' := [vR 165, vI v1]) (st' := [vR 165, vI ((90 + (4 * v1)) + 3), vR 166]) (dg dc261 47 rfl) rfl rfl ?_
    refine ex_getO (dg dc261 48 rfl) rfl (LOC.st (Nat.le_of_ble_eq_true rfl) rfl) rfl ?_
    show EX Z _ 261 _ [vR 165, vI v1] [vR 166, vI ((90 + (4 * v1)) + 3), vR 166] _ _
    refine ex_pu (ls' := [vR 165, vI v1]) (st' := [vI 7, vR 166, vI ((90 + (4 * v1)) + 3), vR 166]) (dg dc261 49 rfl) rfl rfl ?_
    refine ex_iald (dg dc261 50 rfl) (LOC.st (Nat.le_of_ble_eq_true rfl) rfl) rfl hf (fun _ hf => ?_)
    refine ex_iast (dg dc261 51 rfl) (LOC.st (Nat.le_of_ble_eq_true rfl) rfl) rfl rfl hf (fun _ hf => ?_)
    refine ex_gen hf (fun M_20 hM_21 hf => ?_)
    refine ex_pu (ls' := [vR 165, vI v1]) (st' := [vR 165]) (dg dc261 52 rfl) rfl rfl ?_
    refine ex_pu (ls' := [vR 165, vI v1]) (st' := [vR 165, vR 165]) (dg dc261 53 rfl) rfl rfl ?_
    refine ex_cJ (vs := [vR 165]) (st' := [vR 165]) (F := (mo_now  M_20)) (Or.inr (Or.inl ⟨rfl, (dg dc261 54 rfl)⟩)) rfl rfl (rk1 (LOC.st (Nat.le_of_ble_eq_true rfl) rfl) rfl) rfl (fun _ r9 => mo_now_ok (Z := Z) (d := e9) (by omega)  r9) hf (fun z_24 M_23 he_22 hf => ?_)
    refine ex_pu (ls' := [vR 165, vI v1]) (st' := [vI 2, vJ z_24, vR 165]) (dg dc261 55 rfl) rfl rfl ?_
    refine ex_cI (vs := [vR 165, vJ z_24, vI 2]) (st' := []) (F := (mo_thingsIn z_24 2 M_23)) (Or.inr (Or.inl ⟨rfl, (dg dc261 56 rfl)⟩)) rfl rfl (rk1 (LOC.st (Nat.le_of_ble_eq_true rfl) rfl) rfl) rfl (fun _ r9 => mo_thingsIn_ok (Z := Z) (d := e9) (by omega)  r9) hf (fun z_27 M_26 he_25 hf => ?_)
    refine ex_cI (vs := [vI z_27]) (st' := []) (F := (jdk_bitCount z_27 M_26)) (Or.inl ⟨rfl, (dg dc261 57 rfl)⟩) rfl rfl (Or.inl rfl) rfl (fun _ r9 => jdk_bitCount_ok (Z := Z) (d := e9) (by omega)  r9) hf (fun z_30 M_29 he_28 hf => ?_)
    exact ex_ire (dg dc261 58 rfl) rfl hf
  · refine ex_pu (ls' := [vR 165, vI v1]) (st' := [vI 0]) (dg dc261 23 rfl) rfl rfl ?_
    exact ex_ire (dg dc261 24 rfl) rfl hf
def mo_lay (v1 : Int) (M : MM) : OR :=
  (sM (mU M 165 0 0) fun M_1 => (bI (mo_noThing v1 M_1) fun z_5 M_4 => (bI (mo_throwsIf z_5 1 M_4) fun z_8 M_7 => (bif cmpB .ne z_8 0 then some (rI 0, M_7) else (bI (mo_ofThing v1 2 M_7) fun z_11 M_10 => (bif cmpB .eq z_11 2 then (mo_lay_J34   v1 0 M_10) else (mo_lay_J34   v1 1 M_10)))))))
set_option maxRecDepth 4000 in
theorem mo_lay_ok {Z : Nat × (Nat → Int)} {d : Nat} (hd : 3 ≤ d) {M : MM}  {v1 : Int} {res : AR × MM} (hf : mo_lay v1 M = some res) : EX Z d 261 0 (ent 261 [vR 165, vI v1]) [] M res := by
  obtain ⟨e9, rfl⟩ : ∃ e9, d = e9 + 1 := ⟨d - 1, by omega⟩
  unfold mo_lay at hf
  show EX Z _ 261 0 [vR 165, vI v1] [] M res
  refine ex_pu (ls' := [vR 165, vI v1]) (st' := [vR 165]) (dg dc261 0 rfl) rfl rfl ?_
  refine ex_pu (ls' := [vR 165, vI v1]) (st' := [vI 0, vR 165]) (dg dc261 1 rfl) rfl rfl ?_
  refine ex_putI (dg dc261 2 rfl) rfl (LOC.st (Nat.le_of_ble_eq_true rfl) rfl) rfl rfl rfl ?_
  refine ex_gen hf (fun M_1 hM_2 hf => ?_)
  refine ex_pu (ls' := [vR 165, vI v1]) (st' := [vR 165]) (dg dc261 3 rfl) rfl rfl ?_
  refine ex_pu (ls' := [vR 165, vI v1]) (st' := [vR 165, vR 165]) (dg dc261 4 rfl) rfl rfl ?_
  refine ex_pu (ls' := [vR 165, vI v1]) (st' := [vI v1, vR 165, vR 165]) (dg dc261 5 rfl) rfl rfl ?_
  refine ex_cI (vs := [vR 165, vI v1]) (st' := [vR 165]) (F := (mo_noThing v1 M_1)) (Or.inr (Or.inl ⟨rfl, (dg dc261 6 rfl)⟩)) rfl rfl (rk1 (LOC.st (Nat.le_of_ble_eq_true rfl) rfl) rfl) rfl (fun _ r9 => mo_noThing_ok (Z := Z) (d := e9) (by omega)  r9) hf (fun z_5 M_4 he_3 hf => ?_)
  refine ex_pu (ls' := [vR 165, vI v1]) (st' := [vI 1, vI z_5, vR 165]) (dg dc261 7 rfl) rfl rfl ?_
  refine ex_cI (vs := [vR 165, vI z_5, vI 1]) (st' := []) (F := (mo_throwsIf z_5 1 M_4)) (Or.inr (Or.inl ⟨rfl, (dg dc261 8 rfl)⟩)) rfl rfl (rk1 (LOC.st (Nat.le_of_ble_eq_true rfl) rfl) rfl) rfl (fun _ r9 => mo_throwsIf_ok (Z := Z) (d := e9) (by omega)  r9) hf (fun z_8 M_7 he_6 hf => ?_)
  refine ex_if (t := 41) (dg dc261 9 rfl) rfl hf (fun _ hf => ?_) (fun _ hf => ?_)
  · refine ex_pu (ls' := [vR 165, vI v1]) (st' := [vI 0]) (dg dc261 23 rfl) rfl rfl ?_
    exact ex_ire (dg dc261 24 rfl) rfl hf
  · refine ex_pu (ls' := [vR 165, vI v1]) (st' := [vR 165]) (dg dc261 10 rfl) rfl rfl ?_
    refine ex_pu (ls' := [vR 165, vI v1]) (st' := [vR 165, vR 165]) (dg dc261 11 rfl) rfl rfl ?_
    refine ex_pu (ls' := [vR 165, vI v1]) (st' := [vI v1, vR 165, vR 165]) (dg dc261 12 rfl) rfl rfl ?_
    refine ex_pu (ls' := [vR 165, vI v1]) (st' := [vI 2, vI v1, vR 165, vR 165]) (dg dc261 13 rfl) rfl rfl ?_
    refine ex_cI (vs := [vR 165, vI v1, vI 2]) (st' := [vR 165]) (F := (mo_ofThing v1 2 M_7)) (Or.inr (Or.inl ⟨rfl, (dg dc261 14 rfl)⟩)) rfl rfl (rk1 (LOC.st (Nat.le_of_ble_eq_true rfl) rfl) rfl) rfl (fun _ r9 => mo_ofThing_ok (Z := Z) (d := e9) (by omega)  r9) hf (fun z_11 M_10 he_9 hf => ?_)
    refine ex_pu (ls' := [vR 165, vI v1]) (st' := [vI 2, vI z_11, vR 165]) (dg dc261 15 rfl) rfl rfl ?_
    refine ex_icmp (t := 33) (dg dc261 16 rfl) rfl hf (fun _ hf => ?_) (fun _ hf => ?_)
    · refine ex_pu (ls' := [vR 165, vI v1]) (st' := [vI 0, vR 165]) (dg dc261 19 rfl) rfl rfl ?_
      exact mo_lay_J34_ok hd   v1 0 M_10 hf
    · refine ex_pu (ls' := [vR 165, vI v1]) (st' := [vI 1, vR 165]) (dg dc261 17 rfl) rfl rfl ?_
      refine ex_goto (t := 34) (dg dc261 18 rfl) rfl rfl ?_
      exact mo_lay_J34_ok hd   v1 1 M_10 hf
-- GlassHillModel.free
def il262 : List (Nat × Instr × Nat) := [(0, .aload_n 0, 1), (1, .iconst 0, 1), (2, .putfield 3, 3), (5, .aload_n 0, 1), (6, .aload_n 0, 1), (7, .iload_n 1, 1), (8, .invokevirtual 405, 3), (11, .iconst 1, 1), (12, .invokevirtual 274, 3), (15, .ifCond .eq 5, 3), (18, .iconst 0, 1), (19, .ireturn, 1), (20, .aload_n 0, 1), (21, .aload_n 0, 1), (22, .invokevirtual 411, 3), (25, .iload_n 1, 1), (26, .invokevirtual 432, 3), (29, .lstore_n 2, 1), (30, .aload_n 0, 1), (31, .lload_n 2, 1), (32, .lconst 0, 1), (33, .lcmp, 1), (34, .ifCond .ge 7, 3), (37, .iconst 1, 1), (38, .goto 4, 3), (41, .iconst 0, 1), (42, .iconst 2, 1), (43, .invokevirtual 274, 3), (46, .ifCond .eq 5, 3), (49, .iconst 0, 1), (50, .ireturn, 1), (51, .aload_n 0, 1), (52, .invokevirtual 415, 3), (55, .aload_n 0, 1), (56, .lload_n 2, 1), (57, .invokevirtual 426, 3), (60, .aload_n 0, 1), (61, .invokevirtual 300, 3), (64, .invokestatic 361, 3), (67, .ireturn, 1)]
theorem dc262 : dcs (mC 262) il262 := dc_of (by decide +kernel)
def mo_free (v1 : Int) (M : MM) : OR :=
  (sM (mU M 165 0 0) fun M_1 => (bI (mo_noBrother v1 M_1) fun z_5 M_4 => (bI (mo_throwsIf z_5 1 M_4) fun z_8 M_7 => (bif cmpB .eq z_8 0 then (bJ (mo_now  M_7) fun z_11 M_10 => (bJ (mo_frees z_11 v1 M_10) fun z_14 M_13 => (bif cmpB .ge (lCmp z_14 0) 0 then (bI (mo_throwsIf 0 2 M_13) fun z_17 M_16 => (bif cmpB .eq z_17 0 then (bV (mo_remembers  M_16) fun M_19 => (bV (mo_comes z_14 M_19) fun M_22 => (bI (mo_freedNow  M_22) fun z_26 M_25 => (bI (jdk_bitCount z_26 M_25) fun z_29 M_28 => some (rI z_29, M_28))))) else some (rI 0, M_16))) else (bI (mo_throwsIf 1 2 M_13) fun z_32 M_31 => (bif cmpB .eq z_32 0 then (bV (mo_remembers  M_31) fun M_34 => (bV (mo_comes z_14 M_34) fun M_37 => (bI (mo_freedNow  M_37) fun z_41 M_40 => (bI (jdk_bitCount z_41 M_40) fun z_44 M_43 => some (rI z_44, M_43))))) else some (rI 0, M_31)))))) else some (rI 0, M_7)))))
set_option maxRecDepth 4000 in
theorem mo_free_ok {Z : Nat × (Nat → Int)} {d : Nat} (hd : 3 ≤ d) {M : MM}  {v1 : Int} {res : AR × MM} (hf : mo_free v1 M = some res) : EX Z d 262 0 (ent 262 [vR 165, vI v1]) [] M res := by
  obtain ⟨e9, rfl⟩ : ∃ e9, d = e9 + 1 := ⟨d - 1, by omega⟩
  unfold mo_free at hf
  show EX Z _ 262 0 [vR 165, vI v1, vU, vU] [] M res
  refine ex_pu (ls' := [vR 165, vI v1, vU, vU]) (st' := [vR 165]) (dg dc262 0 rfl) rfl rfl ?_
  refine ex_pu (ls' := [vR 165, vI v1, vU, vU]) (st' := [vI 0, vR 165]) (dg dc262 1 rfl) rfl rfl ?_
  refine ex_putI (dg dc262 2 rfl) rfl (LOC.st (Nat.le_of_ble_eq_true rfl) rfl) rfl rfl rfl ?_
  refine ex_gen hf (fun M_1 hM_2 hf => ?_)
  refine ex_pu (ls' := [vR 165, vI v1, vU, vU]) (st' := [vR 165]) (dg dc262 3 rfl) rfl rfl ?_
  refine ex_pu (ls' := [vR 165, vI v1, vU, vU]) (st' := [vR 165, vR 165]) (dg dc262 4 rfl) rfl rfl ?_
  refine ex_pu (ls' := [vR 165, vI v1, vU, vU]) (st' := [vI v1, vR 165, vR 165]) (dg dc262 5 rfl) rfl rfl ?_
  refine ex_cI (vs := [vR 165, vI v1]) (st' := [vR 165]) (F := (mo_noBrother v1 M_1)) (Or.inr (Or.inl ⟨rfl, (dg dc262 6 rfl)⟩)) rfl rfl (rk1 (LOC.st (Nat.le_of_ble_eq_true rfl) rfl) rfl) rfl (fun _ r9 => mo_noBrother_ok (Z := Z) (d := e9) (by omega)  r9) hf (fun z_5 M_4 he_3 hf => ?_)
  refine ex_pu (ls' := [vR 165, vI v1, vU, vU]) (st' := [vI 1, vI z_5, vR 165]) (dg dc262 7 rfl) rfl rfl ?_
  refine ex_cI (vs := [vR 165, vI z_5, vI 1]) (st' := []) (F := (mo_throwsIf z_5 1 M_4)) (Or.inr (Or.inl ⟨rfl, (dg dc262 8 rfl)⟩)) rfl rfl (rk1 (LOC.st (Nat.le_of_ble_eq_true rfl) rfl) rfl) rfl (fun _ r9 => mo_throwsIf_ok (Z := Z) (d := e9) (by omega)  r9) hf (fun z_8 M_7 he_6 hf => ?_)
  refine ex_if (t := 20) (dg dc262 9 rfl) rfl hf (fun _ hf => ?_) (fun _ hf => ?_)
  · refine ex_pu (ls' := [vR 165, vI v1, vU, vU]) (st' := [vR 165]) (dg dc262 12 rfl) rfl rfl ?_
    refine ex_pu (ls' := [vR 165, vI v1, vU, vU]) (st' := [vR 165, vR 165]) (dg dc262 13 rfl) rfl rfl ?_
    refine ex_cJ (vs := [vR 165]) (st' := [vR 165]) (F := (mo_now  M_7)) (Or.inr (Or.inl ⟨rfl, (dg dc262 14 rfl)⟩)) rfl rfl (rk1 (LOC.st (Nat.le_of_ble_eq_true rfl) rfl) rfl) rfl (fun _ r9 => mo_now_ok (Z := Z) (d := e9) (by omega)  r9) hf (fun z_11 M_10 he_9 hf => ?_)
    refine ex_pu (ls' := [vR 165, vI v1, vU, vU]) (st' := [vI v1, vJ z_11, vR 165]) (dg dc262 15 rfl) rfl rfl ?_
    refine ex_cJ (vs := [vR 165, vJ z_11, vI v1]) (st' := []) (F := (mo_frees z_11 v1 M_10)) (Or.inr (Or.inl ⟨rfl, (dg dc262 16 rfl)⟩)) rfl rfl (rk1 (LOC.st (Nat.le_of_ble_eq_true rfl) rfl) rfl) rfl (fun _ r9 => mo_frees_ok (Z := Z) (d := e9) (by omega)  r9) hf (fun z_14 M_13 he_12 hf => ?_)
    refine ex_pu (ls' := [vR 165, vI v1, vJ z_14, vU]) (st' := []) (dg dc262 17 rfl) rfl rfl ?_
    refine ex_pu (ls' := [vR 165, vI v1, vJ z_14, vU]) (st' := [vR 165]) (dg dc262 18 rfl) rfl rfl ?_
    refine ex_pu (ls' := [vR 165, vI v1, vJ z_14, vU]) (st' := [vJ z_14, vR 165]) (dg dc262 19 rfl) rfl rfl ?_
    refine ex_pu (ls' := [vR 165, vI v1, vJ z_14, vU]) (st' := [vJ 0, vJ z_14, vR 165]) (dg dc262 20 rfl) rfl rfl ?_
    refine ex_pu (ls' := [vR 165, vI v1, vJ z_14, vU]) (st' := [vI (lCmp z_14 0), vR 165]) (dg dc262 21 rfl) rfl rfl ?_
    refine ex_if (t := 41) (dg dc262 22 rfl) rfl hf (fun _ hf => ?_) (fun _ hf => ?_)
    · refine ex_pu (ls' := [vR 165, vI v1, vJ z_14, vU]) (st' := [vI 0, vR 165]) (dg dc262 25 rfl) rfl rfl ?_
      refine ex_pu (ls' := [vR 165, vI v1, vJ z_14, vU]) (st' := [vI 2, vI 0, vR 165]) (dg dc262 26 rfl) rfl rfl ?_
      refine ex_cI (vs := [vR 165, vI 0, vI 2]) (st' := []) (F := (mo_throwsIf 0 2 M_13)) (Or.inr (Or.inl ⟨rfl, (dg dc262 27 rfl)⟩)) rfl rfl (rk1 (LOC.st (Nat.le_of_ble_eq_true rfl) rfl) rfl) rfl (fun _ r9 => mo_throwsIf_ok (Z := Z) (d := e9) (by omega)  r9) hf (fun z_17 M_16 he_15 hf => ?_)
      refine ex_if (t := 51) (dg dc262 28 rfl) rfl hf (fun _ hf => ?_) (fun _ hf => ?_)
      · refine ex_pu (ls' := [vR 165, vI v1, vJ z_14, vU]) (st' := [vR 165]) (dg dc262 31 rfl) rfl rfl ?_
        refine ex_cV (vs := [vR 165]) (st' := []) (F := (mo_remembers  M_16)) (Or.inr (Or.inl ⟨rfl, (dg dc262 32 rfl)⟩)) rfl rfl (rk1 (LOC.st (Nat.le_of_ble_eq_true rfl) rfl) rfl) rfl (fun _ r9 => mo_remembers_ok (Z := Z) (d := e9) (by omega)  r9) hf (fun M_19 he_18 hf => ?_)
        refine ex_pu (ls' := [vR 165, vI v1, vJ z_14, vU]) (st' := [vR 165]) (dg dc262 33 rfl) rfl rfl ?_
        refine ex_pu (ls' := [vR 165, vI v1, vJ z_14, vU]) (st' := [vJ z_14, vR 165]) (dg dc262 34 rfl) rfl rfl ?_
        refine ex_cV (vs := [vR 165, vJ z_14]) (st' := []) (F := (mo_comes z_14 M_19)) (Or.inr (Or.inl ⟨rfl, (dg dc262 35 rfl)⟩)) rfl rfl (rk1 (LOC.st (Nat.le_of_ble_eq_true rfl) rfl) rfl) rfl (fun _ r9 => mo_comes_ok (Z := Z) (d := e9) (by omega)  r9) hf (fun M_22 he_21 hf => ?_)
        refine ex_pu (ls' := [vR 165, vI v1, vJ z_14, vU]) (st' := [vR 165]) (dg dc262 36 rfl) rfl rfl ?_
        refine ex_cI (vs := [vR 165]) (st' := []) (F := (mo_freedNow  M_22)) (Or.inr (Or.inl ⟨rfl, (dg dc262 37 rfl)⟩)) rfl rfl (rk1 (LOC.st (Nat.le_of_ble_eq_true rfl) rfl) rfl) rfl (fun _ r9 => mo_freedNow_ok (Z := Z) (d := e9) (by omega)  r9) hf (fun z_26 M_25 he_24 hf => ?_)
        refine ex_cI (vs := [vI z_26]) (st' := []) (F := (jdk_bitCount z_26 M_25)) (Or.inl ⟨rfl, (dg dc262 38 rfl)⟩) rfl rfl (Or.inl rfl) rfl (fun _ r9 => jdk_bitCount_ok (Z := Z) (d := e9) (by omega)  r9) hf (fun z_29 M_28 he_27 hf => ?_)
        exact ex_ire (dg dc262 39 rfl) rfl hf
      · refine ex_pu (ls' := [vR 165, vI v1, vJ z_14, vU]) (st' := [vI 0]) (dg dc262 29 rfl) rfl rfl ?_
        exact ex_ire (dg dc262 30 rfl) rfl hf
    · refine ex_pu (ls' := [vR 165, vI v1, vJ z_14, vU]) (st' := [vI 1, vR 165]) (dg dc262 23 rfl) rfl rfl ?_
      refine ex_goto (t := 42) (dg dc262 24 rfl) rfl rfl ?_
      refine ex_pu (ls' := [vR 165, vI v1, vJ z_14, vU]) (st' := [vI 2, vI 1, vR 165]) (dg dc262 26 rfl) rfl rfl ?_
      refine ex_cI (vs := [vR 165, vI 1, vI 2]) (st' := []) (F := (mo_throwsIf 1 2 M_13)) (Or.inr (Or.inl ⟨rfl, (dg dc262 27 rfl)⟩)) rfl rfl (rk1 (LOC.st (Nat.le_of_ble_eq_true rfl) rfl) rfl) rfl (fun _ r9 => mo_throwsIf_ok (Z := Z) (d := e9) (by omega)  r9) hf (fun z_32 M_31 he_30 hf => ?_)
      refine ex_if (t := 51) (dg dc262 28 rfl) rfl hf (fun _ hf => ?_) (fun _ hf => ?_)
      · refine ex_pu (ls' := [vR 165, vI v1, vJ z_14, vU]) (st' := [vR 165]) (dg dc262 31 rfl) rfl rfl ?_
        refine ex_cV (vs := [vR 165]) (st' := []) (F := (mo_remembers  M_31)) (Or.inr (Or.inl ⟨rfl, (dg dc262 32 rfl)⟩)) rfl rfl (rk1 (LOC.st (Nat.le_of_ble_eq_true rfl) rfl) rfl) rfl (fun _ r9 => mo_remembers_ok (Z := Z) (d := e9) (by omega)  r9) hf (fun M_34 he_33 hf => ?_)
        refine ex_pu (ls' := [vR 165, vI v1, vJ z_14, vU]) (st' := [vR 165]) (dg dc262 33 rfl) rfl rfl ?_
        refine ex_pu (ls' := [vR 165, vI v1, vJ z_14, vU]) (st' := [vJ z_14, vR 165]) (dg dc262 34 rfl) rfl rfl ?_
        refine ex_cV (vs := [vR 165, vJ z_14]) (st' := []) (F := (mo_comes z_14 M_34)) (Or.inr (Or.inl ⟨rfl, (dg dc262 35 rfl)⟩)) rfl rfl (rk1 (LOC.st (Nat.le_of_ble_eq_true rfl) rfl) rfl) rfl (fun _ r9 => mo_comes_ok (Z := Z) (d := e9) (by omega)  r9) hf (fun M_37 he_36 hf => ?_)
        refine ex_pu (ls' := [vR 165, vI v1, vJ z_14, vU]) (st' := [vR 165]) (dg dc262 36 rfl) rfl rfl ?_
        refine ex_cI (vs := [vR 165]) (st' := []) (F := (mo_freedNow  M_37)) (Or.inr (Or.inl ⟨rfl, (dg dc262 37 rfl)⟩)) rfl rfl (rk1 (LOC.st (Nat.le_of_ble_eq_true rfl) rfl) rfl) rfl (fun _ r9 => mo_freedNow_ok (Z := Z) (d := e9) (by omega)  r9) hf (fun z_41 M_40 he_39 hf => ?_)
        refine ex_cI (vs := [vI z_41]) (st' := []) (F := (jdk_bitCount z_41 M_40)) (Or.inl ⟨rfl, (dg dc262 38 rfl)⟩) rfl rfl (Or.inl rfl) rfl (fun _ r9 => jdk_bitCount_ok (Z := Z) (d := e9) (by omega)  r9) hf (fun z_44 M_43 he_42 hf => ?_)
        exact ex_ire (dg dc262 39 rfl) rfl hf
      · refine ex_pu (ls' := [vR 165, vI v1, vJ z_14, vU]) (st' := [vI 0]) (dg dc262 29 rfl) rfl rfl ?_
        exact ex_ire (dg dc262 30 rfl) rfl hf
  · refine ex_pu (ls' := [vR 165, vI v1, vU, vU]) (st' := [vI 0]) (dg dc262 10 rfl) rfl rfl ?_
    exact ex_ire (dg dc262 11 rfl) rfl hf
-- GlassHillModel.spreads
def il264 : List (Nat × Instr × Nat) := [(0, .lload_n 1, 1), (1, .invokestatic 303, 3), (4, .bipush 30, 2), (6, .if_icmp .eq 15, 3), (9, .aload_n 0, 1), (10, .aload_n 0, 1), (11, .lload_n 1, 1), (12, .invokevirtual 418, 3), (15, .invokevirtual 440, 3), (18, .ifCond .eq 7, 3), (21, .iconst 1, 1), (22, .goto 4, 3), (25, .iconst 0, 1), (26, .istore_n 3, 1), (27, .iconst 0, 1), (28, .istore 4, 2), (30, .iload 4, 2), (32, .aload_n 0, 1), (33, .invokevirtual 87, 3), (36, .if_icmp .ge 33, 3), (39, .iload_n 3, 1), (40, .ifCond .eq 21, 3), (43, .aload_n 0, 1), (44, .aload_n 0, 1), (45, .lload_n 1, 1), (46, .iload 4, 2), (48, .invokevirtual 444, 3), (51, .invokevirtual 440, 3), (54, .ifCond .eq 7, 3), (57, .iconst 1, 1), (58, .goto 4, 3), (61, .iconst 0, 1), (62, .istore_n 3, 1), (63, .iinc 4 1, 3), (66, .goto (-36), 3), (69, .iconst 0, 1), (70, .istore 4, 2), (72, .iload 4, 2), (74, .aload_n 0, 1), (75, .invokevirtual 84, 3), (78, .if_icmp .ge 47, 3), (81, .iload_n 3, 1), (82, .ifCond .eq 35, 3), (85, .aload_n 0, 1), (86, .aload_n 0, 1), (87, .lload_n 1, 1), (88, .iload 4, 2), (90, .invokevirtual 422, 3), (93, .invokevirtual 440, 3), (96, .ifCond .eq 21, 3), (99, .aload_n 0, 1), (100, .aload_n 0, 1), (101, .lload_n 1, 1), (102, .iload 4, 2), (104, .invokevirtual 430, 3), (107, .invokevirtual 440, 3), (110, .ifCond .eq 7, 3), (113, .iconst 1, 1), (114, .goto 4, 3), (117, .iconst 0, 1), (118, .istore_n 3, 1), (119, .iinc 4 1, 3), (122, .goto (-50), 3), (125, .iconst 0, 1), (126, .istore 4, 2), (128, .iload 4, 2), (130, .aload_n 0, 1), (131, .invokevirtual 90, 3), (134, .if_icmp .ge 33, 3), (137, .iload_n 3, 1), (138, .ifCond .eq 21, 3), (141, .aload_n 0, 1), (142, .aload_n 0, 1), (143, .lload_n 1, 1), (144, .iload 4, 2), (146, .invokevirtual 432, 3), (149, .invokevirtual 440, 3), (152, .ifCond .eq 7, 3), (155, .iconst 1, 1), (156, .goto 4, 3), (159, .iconst 0, 1), (160, .istore_n 3, 1), (161, .iinc 4 1, 3), (164, .goto (-36), 3), (167, .iload_n 3, 1), (168, .ireturn, 1)]
theorem dc264 : dcs (mC 264) il264 := dc_of (by decide +kernel)
def mo_spreads_L30  (v1 : Int) (K1 : Int → MM → OR) : Nat → Int → Int → MM → OR
  | 0, _, _, _ => none
  | n + 1, v3, v4, M => (bI (mo_roads  M) fun z_6 M_5 => (bif cmpB .ge v4 z_6 then (K1 v3 M_5) else (bif cmpB .eq v3 0 then (mo_spreads_L30 v1 K1 n 0 (v4 + 1) M_5) else (bJ (mo_goes v1 v4 M_5) fun z_9 M_8 => (bI (mo_isMet z_9 M_8) fun z_12 M_11 => (bif cmpB .eq z_12 0 then (mo_spreads_L30 v1 K1 n 0 (v4 + 1) M_11) else (mo_spreads_L30 v1 K1 n 1 (v4 + 1) M_11)))))))
set_option maxRecDepth 4000 in
theorem mo_spreads_L30_ok {Z : Nat × (Nat → Int)} {d : Nat} (hd : 7 ≤ d)  {v1 : Int} {K1 : Int → MM → OR} {res : AR × MM} (k1 : ∀ (x3 : Int) (M : MM) (j4 : AV), K1 x3 M = some res → EX Z d 264 69 [vR 165, vJ v1, vU, vI x3, j4] [] M res) : ∀ (n : Nat) (v3 v4 : Int) (M : MM), mo_spreads_L30 v1 K1 n v3 v4 M = some res → EX Z d 264 30 [vR 165, vJ v1, vU, vI v3, vI v4] [] M res := by
  obtain ⟨e9, rfl⟩ : ∃ e9, d = e9 + 1 := ⟨d - 1, by omega⟩
  intro n
  induction n with
  | zero =>
    intro v3 v4 M hf
    unfold mo_spreads_L30 at hf
    cases hf
  | succ n ih =>
    intro v3 v4 M hf
    unfold mo_spreads_L30 at hf
    refine ex_pu (ls' := [vR 165, vJ v1, vU, vI v3, vI v4]) (st' := [vI v4]) (dg dc264 16 rfl) rfl rfl ?_
    refine ex_pu (ls' := [vR 165, vJ v1, vU, vI v3, vI v4]) (st' := [vR 165, vI v4]) (dg dc264 17 rfl) rfl rfl ?_
    refine ex_cI (vs := [vR 165]) (st' := [vI v4]) (F := (mo_roads  M)) (Or.inr (Or.inl ⟨rfl, (dg dc264 18 rfl)⟩)) rfl rfl (rk1 (LOC.st (Nat.le_of_ble_eq_true rfl) rfl) rfl) rfl (fun _ r9 => mo_roads_ok (Z := Z) (d := e9) (by omega)  r9) hf (fun z_6 M_5 he_4 hf => ?_)
    refine ex_icmp (t := 69) (dg dc264 19 rfl) rfl hf (fun _ hf => ?_) (fun _ hf => ?_)
    · exact k1 v3 M_5 _ hf
    · refine ex_pu (ls' := [vR 165, vJ v1, vU, vI v3, vI v4]) (st' := [vI v3]) (dg dc264 20 rfl) rfl rfl ?_
      refine ex_if (t := 61) (dg dc264 21 rfl) rfl hf (fun _ hf => ?_) (fun _ hf => ?_)
      · refine ex_pu (ls' := [vR 165, vJ v1, vU, vI v3, vI v4]) (st' := [vI 0]) (dg dc264 31 rfl) rfl rfl ?_
        refine ex_pu (ls' := [vR 165, vJ v1, vU, vI 0, vI v4]) (st' := []) (dg dc264 32 rfl) rfl rfl ?_
        refine ex_pu (ls' := [vR 165, vJ v1, vU, vI 0, vI (v4 + 1)]) (st' := []) (dg dc264 33 rfl) rfl rfl ?_
        refine ex_goto (t := 30) (dg dc264 34 rfl) rfl rfl ?_
        exact ih 0 (v4 + 1) M_5 hf
      · refine ex_pu (ls' := [vR 165, vJ v1, vU, vI v3, vI v4]) (st' := [vR 165]) (dg dc264 22 rfl) rfl rfl ?_
        refine ex_pu (ls' := [vR 165, vJ v1, vU, vI v3, vI v4]) (st' := [vR 165, vR 165]) (dg dc264 23 rfl) rfl rfl ?_
        refine ex_pu (ls' := [vR 165, vJ v1, vU, vI v3, vI v4]) (st' := [vJ v1, vR 165, vR 165]) (dg dc264 24 rfl) rfl rfl ?_
        refine ex_pu (ls' := [vR 165, vJ v1, vU, vI v3, vI v4]) (st' := [vI v4, vJ v1, vR 165, vR 165]) (dg dc264 25 rfl) rfl rfl ?_
        refine ex_cJ (vs := [vR 165, vJ v1, vI v4]) (st' := [vR 165]) (F := (mo_goes v1 v4 M_5)) (Or.inr (Or.inl ⟨rfl, (dg dc264 26 rfl)⟩)) rfl rfl (rk1 (LOC.st (Nat.le_of_ble_eq_true rfl) rfl) rfl) rfl (fun _ r9 => mo_goes_ok (Z := Z) (d := e9) (by omega)  r9) hf (fun z_9 M_8 he_7 hf => ?_)
        refine ex_cI (vs := [vR 165, vJ z_9]) (st' := []) (F := (mo_isMet z_9 M_8)) (Or.inr (Or.inl ⟨rfl, (dg dc264 27 rfl)⟩)) rfl rfl (rk1 (LOC.st (Nat.le_of_ble_eq_true rfl) rfl) rfl) rfl (fun _ r9 => mo_isMet_ok (Z := Z) (d := e9) (by omega)  r9) hf (fun z_12 M_11 he_10 hf => ?_)
        refine ex_if (t := 61) (dg dc264 28 rfl) rfl hf (fun _ hf => ?_) (fun _ hf => ?_)
        · refine ex_pu (ls' := [vR 165, vJ v1, vU, vI v3, vI v4]) (st' := [vI 0]) (dg dc264 31 rfl) rfl rfl ?_
          refine ex_pu (ls' := [vR 165, vJ v1, vU, vI 0, vI v4]) (st' := []) (dg dc264 32 rfl) rfl rfl ?_
          refine ex_pu (ls' := [vR 165, vJ v1, vU, vI 0, vI (v4 + 1)]) (st' := []) (dg dc264 33 rfl) rfl rfl ?_
          refine ex_goto (t := 30) (dg dc264 34 rfl) rfl rfl ?_
          exact ih 0 (v4 + 1) M_11 hf
        · refine ex_pu (ls' := [vR 165, vJ v1, vU, vI v3, vI v4]) (st' := [vI 1]) (dg dc264 29 rfl) rfl rfl ?_
          refine ex_goto (t := 62) (dg dc264 30 rfl) rfl rfl ?_
          refine ex_pu (ls' := [vR 165, vJ v1, vU, vI 1, vI v4]) (st' := []) (dg dc264 32 rfl) rfl rfl ?_
          refine ex_pu (ls' := [vR 165, vJ v1, vU, vI 1, vI (v4 + 1)]) (st' := []) (dg dc264 33 rfl) rfl rfl ?_
          refine ex_goto (t := 30) (dg dc264 34 rfl) rfl rfl ?_
          exact ih 1 (v4 + 1) M_11 hf
def mo_spreads_L72  (v1 : Int) (K1 : Int → MM → OR) : Nat → Int → Int → MM → OR
  | 0, _, _, _ => none
  | n + 1, v3, v4, M => (bI (mo_things  M) fun z_18 M_17 => (bif cmpB .ge v4 z_18 then (K1 v3 M_17) else (bif cmpB .eq v3 0 then (mo_spreads_L72 v1 K1 n 0 (v4 + 1) M_17) else (bJ (mo_pays v1 v4 M_17) fun z_21 M_20 => (bI (mo_isMet z_21 M_20) fun z_24 M_23 => (bif cmpB .eq z_24 0 then (mo_spreads_L72 v1 K1 n 0 (v4 + 1) M_23) else (bJ (mo_takes v1 v4 M_23) fun z_27 M_26 => (bI (mo_isMet z_27 M_26) fun z_30 M_29 => (bif cmpB .eq z_30 0 then (mo_spreads_L72 v1 K1 n 0 (v4 + 1) M_29) else (mo_spreads_L72 v1 K1 n 1 (v4 + 1) M_29))))))))))
set_option maxRecDepth 4000 in
theorem mo_spreads_L72_ok {Z : Nat × (Nat → Int)} {d : Nat} (hd : 7 ≤ d)  {v1 : Int} {K1 : Int → MM → OR} {res : AR × MM} (k1 : ∀ (x3 : Int) (M : MM) (j4 : AV), K1 x3 M = some res → EX Z d 264 125 [vR 165, vJ v1, vU, vI x3, j4] [] M res) : ∀ (n : Nat) (v3 v4 : Int) (M : MM), mo_spreads_L72 v1 K1 n v3 v4 M = some res → EX Z d 264 72 [vR 165, vJ v1, vU, vI v3, vI v4] [] M res := by
  obtain ⟨e9, rfl⟩ : ∃ e9, d = e9 + 1 := ⟨d - 1, by omega⟩
  intro n
  induction n with
  | zero =>
    intro v3 v4 M hf
    unfold mo_spreads_L72 at hf
    cases hf
  | succ n ih =>
    intro v3 v4 M hf
    unfold mo_spreads_L72 at hf
    refine ex_pu (ls' := [vR 165, vJ v1, vU, vI v3, vI v4]) (st' := [vI v4]) (dg dc264 37 rfl) rfl rfl ?_
    refine ex_pu (ls' := [vR 165, vJ v1, vU, vI v3, vI v4]) (st' := [vR 165, vI v4]) (dg dc264 38 rfl) rfl rfl ?_
    refine ex_cI (vs := [vR 165]) (st' := [vI v4]) (F := (mo_things  M)) (Or.inr (Or.inl ⟨rfl, (dg dc264 39 rfl)⟩)) rfl rfl (rk1 (LOC.st (Nat.le_of_ble_eq_true rfl) rfl) rfl) rfl (fun _ r9 => mo_things_ok (Z := Z) (d := e9) (by omega)  r9) hf (fun z_18 M_17 he_16 hf => ?_)
    refine ex_icmp (t := 125) (dg dc264 40 rfl) rfl hf (fun _ hf => ?_) (fun _ hf => ?_)
    · exact k1 v3 M_17 _ hf
    · refine ex_pu (ls' := [vR 165, vJ v1, vU, vI v3, vI v4]) (st' := [vI v3]) (dg dc264 41 rfl) rfl rfl ?_
      refine ex_if (t := 117) (dg dc264 42 rfl) rfl hf (fun _ hf => ?_) (fun _ hf => ?_)
      · refine ex_pu (ls' := [vR 165, vJ v1, vU, vI v3, vI v4]) (st' := [vI 0]) (dg dc264 59 rfl) rfl rfl ?_
        refine ex_pu (ls' := [vR 165, vJ v1, vU, vI 0, vI v4]) (st' := []) (dg dc264 60 rfl) rfl rfl ?_
        refine ex_pu (ls' := [vR 165, vJ v1, vU, vI 0, vI (v4 + 1)]) (st' := []) (dg dc264 61 rfl) rfl rfl ?_
        refine ex_goto (t := 72) (dg dc264 62 rfl) rfl rfl ?_
        exact ih 0 (v4 + 1) M_17 hf
      · refine ex_pu (ls' := [vR 165, vJ v1, vU, vI v3, vI v4]) (st' := [vR 165]) (dg dc264 43 rfl) rfl rfl ?_
        refine ex_pu (ls' := [vR 165, vJ v1, vU, vI v3, vI v4]) (st' := [vR 165, vR 165]) (dg dc264 44 rfl) rfl rfl ?_
        refine ex_pu (ls' := [vR 165, vJ v1, vU, vI v3, vI v4]) (st' := [vJ v1, vR 165, vR 165]) (dg dc264 45 rfl) rfl rfl ?_
        refine ex_pu (ls' := [vR 165, vJ v1, vU, vI v3, vI v4]) (st' := [vI v4, vJ v1, vR 165, vR 165]) (dg dc264 46 rfl) rfl rfl ?_
        refine ex_cJ (vs := [vR 165, vJ v1, vI v4]) (st' := [vR 165]) (F := (mo_pays v1 v4 M_17)) (Or.inr (Or.inl ⟨rfl, (dg dc264 47 rfl)⟩)) rfl rfl (rk1 (LOC.st (Nat.le_of_ble_eq_true rfl) rfl) rfl) rfl (fun _ r9 => mo_pays_ok (Z := Z) (d := e9) (by omega)  r9) hf (fun z_21 M_20 he_19 hf => ?_)
        refine ex_cI (vs := [vR 165, vJ z_21]) (st' := []) (F := (mo_isMet z_21 M_20)) (Or.inr (Or.inl ⟨rfl, (dg dc264 48 rfl)⟩)) rfl rfl (rk1 (LOC.st (Nat.le_of_ble_eq_true rfl) rfl) rfl) rfl (fun _ r9 => mo_isMet_ok (Z := Z) (d := e9) (by omega)  r9) hf (fun z_24 M_23 he_22 hf => ?_)
        refine ex_if (t := 117) (dg dc264 49 rfl) rfl hf (fun _ hf => ?_) (fun _ hf => ?_)
        · refine ex_pu (ls' := [vR 165, vJ v1, vU, vI v3, vI v4]) (st' := [vI 0]) (dg dc264 59 rfl) rfl rfl ?_
          refine ex_pu (ls' := [vR 165, vJ v1, vU, vI 0, vI v4]) (st' := []) (dg dc264 60 rfl) rfl rfl ?_
          refine ex_pu (ls' := [vR 165, vJ v1, vU, vI 0, vI (v4 + 1)]) (st' := []) (dg dc264 61 rfl) rfl rfl ?_
          refine ex_goto (t := 72) (dg dc264 62 rfl) rfl rfl ?_
          exact ih 0 (v4 + 1) M_23 hf
        · refine ex_pu (ls' := [vR 165, vJ v1, vU, vI v3, vI v4]) (st' := [vR 165]) (dg dc264 50 rfl) rfl rfl ?_
          refine ex_pu (ls' := [vR 165, vJ v1, vU, vI v3, vI v4]) (st' := [vR 165, vR 165]) (dg dc264 51 rfl) rfl rfl ?_
          refine ex_pu (ls' := [vR 165, vJ v1, vU, vI v3, vI v4]) (st' := [vJ v1, vR 165, vR 165]) (dg dc264 52 rfl) rfl rfl ?_
          refine ex_pu (ls' := [vR 165, vJ v1, vU, vI v3, vI v4]) (st' := [vI v4, vJ v1, vR 165, vR 165]) (dg dc264 53 rfl) rfl rfl ?_
          refine ex_cJ (vs := [vR 165, vJ v1, vI v4]) (st' := [vR 165]) (F := (mo_takes v1 v4 M_23)) (Or.inr (Or.inl ⟨rfl, (dg dc264 54 rfl)⟩)) rfl rfl (rk1 (LOC.st (Nat.le_of_ble_eq_true rfl) rfl) rfl) rfl (fun _ r9 => mo_takes_ok (Z := Z) (d := e9) (by omega)  r9) hf (fun z_27 M_26 he_25 hf => ?_)
          refine ex_cI (vs := [vR 165, vJ z_27]) (st' := []) (F := (mo_isMet z_27 M_26)) (Or.inr (Or.inl ⟨rfl, (dg dc264 55 rfl)⟩)) rfl rfl (rk1 (LOC.st (Nat.le_of_ble_eq_true rfl) rfl) rfl) rfl (fun _ r9 => mo_isMet_ok (Z := Z) (d := e9) (by omega)  r9) hf (fun z_30 M_29 he_28 hf => ?_)
          refine ex_if (t := 117) (dg dc264 56 rfl) rfl hf (fun _ hf => ?_) (fun _ hf => ?_)
          · refine ex_pu (ls' := [vR 165, vJ v1, vU, vI v3, vI v4]) (st' := [vI 0]) (dg dc264 59 rfl) rfl rfl ?_
            refine ex_pu (ls' := [vR 165, vJ v1, vU, vI 0, vI v4]) (st' := []) (dg dc264 60 rfl) rfl rfl ?_
            refine ex_pu (ls' := [vR 165, vJ v1, vU, vI 0, vI (v4 + 1)]) (st' := []) (dg dc264 61 rfl) rfl rfl ?_
            refine ex_goto (t := 72) (dg dc264 62 rfl) rfl rfl ?_
            exact ih 0 (v4 + 1) M_29 hf
          · refine ex_pu (ls' := [vR 165, vJ v1, vU, vI v3, vI v4]) (st' := [vI 1]) (dg dc264 57 rfl) rfl rfl ?_
            refine ex_goto (t := 118) (dg dc264 58 rfl) rfl rfl ?_
            refine ex_pu (ls' := [vR 165, vJ v1, vU, vI 1, vI v4]) (st' := []) (dg dc264 60 rfl) rfl rfl ?_
            refine ex_pu (ls' := [vR 165, vJ v1, vU, vI 1, vI (v4 + 1)]) (st' := []) (dg dc264 61 rfl) rfl rfl ?_
            refine ex_goto (t := 72) (dg dc264 62 rfl) rfl rfl ?_
            exact ih 1 (v4 + 1) M_29 hf
def mo_spreads_L128  (v1 : Int) (K1 : Int → MM → OR) : Nat → Int → Int → MM → OR
  | 0, _, _, _ => none
  | n + 1, v3, v4, M => (bI (mo_brothers  M) fun z_36 M_35 => (bif cmpB .ge v4 z_36 then (K1 v3 M_35) else (bif cmpB .eq v3 0 then (mo_spreads_L128 v1 K1 n 0 (v4 + 1) M_35) else (bJ (mo_frees v1 v4 M_35) fun z_39 M_38 => (bI (mo_isMet z_39 M_38) fun z_42 M_41 => (bif cmpB .eq z_42 0 then (mo_spreads_L128 v1 K1 n 0 (v4 + 1) M_41) else (mo_spreads_L128 v1 K1 n 1 (v4 + 1) M_41)))))))
set_option maxRecDepth 4000 in
theorem mo_spreads_L128_ok {Z : Nat × (Nat → Int)} {d : Nat} (hd : 7 ≤ d)  {v1 : Int} {K1 : Int → MM → OR} {res : AR × MM} (k1 : ∀ (x3 : Int) (M : MM) (j0 j1 j2 j4 : AV), K1 x3 M = some res → EX Z d 264 167 [j0, j1, j2, vI x3, j4] [] M res) : ∀ (n : Nat) (v3 v4 : Int) (M : MM), mo_spreads_L128 v1 K1 n v3 v4 M = some res → EX Z d 264 128 [vR 165, vJ v1, vU, vI v3, vI v4] [] M res := by
  obtain ⟨e9, rfl⟩ : ∃ e9, d = e9 + 1 := ⟨d - 1, by omega⟩
  intro n
  induction n with
  | zero =>
    intro v3 v4 M hf
    unfold mo_spreads_L128 at hf
    cases hf
  | succ n ih =>
    intro v3 v4 M hf
    unfold mo_spreads_L128 at hf
    refine ex_pu (ls' := [vR 165, vJ v1, vU, vI v3, vI v4]) (st' := [vI v4]) (dg dc264 65 rfl) rfl rfl ?_
    refine ex_pu (ls' := [vR 165, vJ v1, vU, vI v3, vI v4]) (st' := [vR 165, vI v4]) (dg dc264 66 rfl) rfl rfl ?_
    refine ex_cI (vs := [vR 165]) (st' := [vI v4]) (F := (mo_brothers  M)) (Or.inr (Or.inl ⟨rfl, (dg dc264 67 rfl)⟩)) rfl rfl (rk1 (LOC.st (Nat.le_of_ble_eq_true rfl) rfl) rfl) rfl (fun _ r9 => mo_brothers_ok (Z := Z) (d := e9) (by omega)  r9) hf (fun z_36 M_35 he_34 hf => ?_)
    refine ex_icmp (t := 167) (dg dc264 68 rfl) rfl hf (fun _ hf => ?_) (fun _ hf => ?_)
    · exact k1 v3 M_35 _ _ _ _ hf
    · refine ex_pu (ls' := [vR 165, vJ v1, vU, vI v3, vI v4]) (st' := [vI v3]) (dg dc264 69 rfl) rfl rfl ?_
      refine ex_if (t := 159) (dg dc264 70 rfl) rfl hf (fun _ hf => ?_) (fun _ hf => ?_)
      · refine ex_pu (ls' := [vR 165, vJ v1, vU, vI v3, vI v4]) (st' := [vI 0]) (dg dc264 80 rfl) rfl rfl ?_
        refine ex_pu (ls' := [vR 165, vJ v1, vU, vI 0, vI v4]) (st' := []) (dg dc264 81 rfl) rfl rfl ?_
        refine ex_pu (ls' := [vR 165, vJ v1, vU, vI 0, vI (v4 + 1)]) (st' := []) (dg dc264 82 rfl) rfl rfl ?_
        refine ex_goto (t := 128) (dg dc264 83 rfl) rfl rfl ?_
        exact ih 0 (v4 + 1) M_35 hf
      · refine ex_pu (ls' := [vR 165, vJ v1, vU, vI v3, vI v4]) (st' := [vR 165]) (dg dc264 71 rfl) rfl rfl ?_
        refine ex_pu (ls' := [vR 165, vJ v1, vU, vI v3, vI v4]) (st' := [vR 165, vR 165]) (dg dc264 72 rfl) rfl rfl ?_
        refine ex_pu (ls' := [vR 165, vJ v1, vU, vI v3, vI v4]) (st' := [vJ v1, vR 165, vR 165]) (dg dc264 73 rfl) rfl rfl ?_
        refine ex_pu (ls' := [vR 165, vJ v1, vU, vI v3, vI v4]) (st' := [vI v4, vJ v1, vR 165, vR 165]) (dg dc264 74 rfl) rfl rfl ?_
        refine ex_cJ (vs := [vR 165, vJ v1, vI v4]) (st' := [vR 165]) (F := (mo_frees v1 v4 M_35)) (Or.inr (Or.inl ⟨rfl, (dg dc264 75 rfl)⟩)) rfl rfl (rk1 (LOC.st (Nat.le_of_ble_eq_true rfl) rfl) rfl) rfl (fun _ r9 => mo_frees_ok (Z := Z) (d := e9) (by omega)  r9) hf (fun z_39 M_38 he_37 hf => ?_)
        refine ex_cI (vs := [vR 165, vJ z_39]) (st' := []) (F := (mo_isMet z_39 M_38)) (Or.inr (Or.inl ⟨rfl, (dg dc264 76 rfl)⟩)) rfl rfl (rk1 (LOC.st (Nat.le_of_ble_eq_true rfl) rfl) rfl) rfl (fun _ r9 => mo_isMet_ok (Z := Z) (d := e9) (by omega)  r9) hf (fun z_42 M_41 he_40 hf => ?_)
        refine ex_if (t := 159) (dg dc264 77 rfl) rfl hf (fun _ hf => ?_) (fun _ hf => ?_)
        · refine ex_pu (ls' := [vR 165, vJ v1, vU, vI v3, vI v4]) (st' := [vI 0]) (dg dc264 80 rfl) rfl rfl ?_
          refine ex_pu (ls' := [vR 165, vJ v1, vU, vI 0, vI v4]) (st' := []) (dg dc264 81 rfl) rfl rfl ?_
          refine ex_pu (ls' := [vR 165, vJ v1, vU, vI 0, vI (v4 + 1)]) (st' := []) (dg dc264 82 rfl) rfl rfl ?_
          refine ex_goto (t := 128) (dg dc264 83 rfl) rfl rfl ?_
          exact ih 0 (v4 + 1) M_41 hf
        · refine ex_pu (ls' := [vR 165, vJ v1, vU, vI v3, vI v4]) (st' := [vI 1]) (dg dc264 78 rfl) rfl rfl ?_
          refine ex_goto (t := 160) (dg dc264 79 rfl) rfl rfl ?_
          refine ex_pu (ls' := [vR 165, vJ v1, vU, vI 1, vI v4]) (st' := []) (dg dc264 81 rfl) rfl rfl ?_
          refine ex_pu (ls' := [vR 165, vJ v1, vU, vI 1, vI (v4 + 1)]) (st' := []) (dg dc264 82 rfl) rfl rfl ?_
          refine ex_goto (t := 128) (dg dc264 83 rfl) rfl rfl ?_
          exact ih 1 (v4 + 1) M_41 hf
def mo_spreads_J26   (v1 s0 : Int) (M : MM) : OR :=
  (mo_spreads_L30 v1 (fun v3_13 M_14 => (mo_spreads_L72 v1 (fun v3_31 M_32 => (mo_spreads_L128 v1 (fun v3_43 M_44 => (bif zo v3_43 then some (rI v3_43, M_44) else none)) FU v3_31 0 M_32)) FU v3_13 0 M_14)) FU s0 0 M)
set_option maxRecDepth 4000 in
theorem mo_spreads_J26_ok {Z : Nat × (Nat → Int)} {d : Nat} (hd : 7 ≤ d)   {res : AR × MM}  : ∀ (v1 s0 : Int) (M : MM) (j3 j4 : AV), mo_spreads_J26   v1 s0 M = some res → EX Z d 264 26 [vR 165, vJ v1, vU, j3, j4] [vI s0] M res := by
  obtain ⟨e9, rfl⟩ : ∃ e9, d = e9 + 1 := ⟨d - 1, by omega⟩
  intro v1 s0 M j3 j4 hf
  unfold mo_spreads_J26 at hf
  refine ex_pu (ls' := [vR 165, vJ v1, vU, vI s0, j4]) (st' := []) (dg dc264 13 rfl) rfl rfl ?_
  refine ex_pu (ls' := [vR 165, vJ v1, vU, vI s0, j4]) (st' := [vI 0]) (dg dc264 14 rfl) rfl rfl ?_
  refine ex_pu (ls' := [vR 165, vJ v1, vU, vI s0, vI 0]) (st' := []) (dg dc264 15 rfl) rfl rfl ?_
  refine mo_spreads_L30_ok hd  ?_ FU s0 0 M hf
  · intro v3_13 M_14 j4_15 hf
    refine ex_pu (ls' := [vR 165, vJ v1, vU, vI v3_13, j4_15]) (st' := [vI 0]) (dg dc264 35 rfl) rfl rfl ?_
    refine ex_pu (ls' := [vR 165, vJ v1, vU, vI v3_13, vI 0]) (st' := []) (dg dc264 36 rfl) rfl rfl ?_
    refine mo_spreads_L72_ok hd  ?_ FU v3_13 0 M_14 hf
    · intro v3_31 M_32 j4_33 hf
      refine ex_pu (ls' := [vR 165, vJ v1, vU, vI v3_31, j4_33]) (st' := [vI 0]) (dg dc264 63 rfl) rfl rfl ?_
      refine ex_pu (ls' := [vR 165, vJ v1, vU, vI v3_31, vI 0]) (st' := []) (dg dc264 64 rfl) rfl rfl ?_
      refine mo_spreads_L128_ok hd  ?_ FU v3_31 0 M_32 hf
      · intro v3_43 M_44 j0_45 j1_46 j2_47 j4_48 hf
        refine ex_pu (ls' := [j0_45, j1_46, j2_47, vI v3_43, j4_48]) (st' := [vI v3_43]) (dg dc264 84 rfl) rfl rfl ?_
        exact ex_irb (dg dc264 85 rfl) rfl hf
def mo_spreads_J21   (v1 : Int) (M : MM) : OR :=
  (mo_spreads_J26   v1 1 M)
set_option maxRecDepth 4000 in
theorem mo_spreads_J21_ok {Z : Nat × (Nat → Int)} {d : Nat} (hd : 7 ≤ d)   {res : AR × MM}  : ∀ (v1 : Int) (M : MM) (j3 j4 : AV), mo_spreads_J21   v1 M = some res → EX Z d 264 21 [vR 165, vJ v1, vU, j3, j4] [] M res := by
  obtain ⟨e9, rfl⟩ : ∃ e9, d = e9 + 1 := ⟨d - 1, by omega⟩
  intro v1 M j3 j4 hf
  unfold mo_spreads_J21 at hf
  refine ex_pu (ls' := [vR 165, vJ v1, vU, j3, j4]) (st' := [vI 1]) (dg dc264 10 rfl) rfl rfl ?_
  refine ex_goto (t := 26) (dg dc264 11 rfl) rfl rfl ?_
  exact mo_spreads_J26_ok hd   v1 1 M _ _ hf
def mo_spreads (v1 : Int) (M : MM) : OR :=
  (bI (mo_hoursOf v1 M) fun z_3 M_2 => (bif cmpB .eq z_3 30 then (mo_spreads_J21   v1 M_2) else (bJ (mo_waits v1 M_2) fun z_51 M_50 => (bI (mo_isMet z_51 M_50) fun z_54 M_53 => (bif cmpB .eq z_54 0 then (mo_spreads_J26   v1 0 M_53) else (mo_spreads_J21   v1 M_53))))))
set_option maxRecDepth 4000 in
theorem mo_spreads_ok {Z : Nat × (Nat → Int)} {d : Nat} (hd : 7 ≤ d) {M : MM}  {v1 : Int} {res : AR × MM} (hf : mo_spreads v1 M = some res) : EX Z d 264 0 (ent 264 [vR 165, vJ v1]) [] M res := by
  obtain ⟨e9, rfl⟩ : ∃ e9, d = e9 + 1 := ⟨d - 1, by omega⟩
  unfold mo_spreads at hf
  show EX Z _ 264 0 [vR 165, vJ v1, vU, vU, vU] [] M res
  refine ex_pu (ls' := [vR 165, vJ v1, vU, vU, vU]) (st' := [vJ v1]) (dg dc264 0 rfl) rfl rfl ?_
  refine ex_cI (vs := [vJ v1]) (st' := []) (F := (mo_hoursOf v1 M)) (Or.inl ⟨rfl, (dg dc264 1 rfl)⟩) rfl rfl (Or.inl rfl) rfl (fun _ r9 => mo_hoursOf_ok (Z := Z) (d := e9) (by omega)  r9) hf (fun z_3 M_2 he_1 hf => ?_)
  refine ex_pu (ls' := [vR 165, vJ v1, vU, vU, vU]) (st' := [vI 30, vI z_3]) (dg dc264 2 rfl) rfl rfl ?_
  refine ex_icmp (t := 21) (dg dc264 3 rfl) rfl hf (fun _ hf => ?_) (fun _ hf => ?_)
  · exact mo_spreads_J21_ok hd   v1 M_2 _ _ hf
  · refine ex_pu (ls' := [vR 165, vJ v1, vU, vU, vU]) (st' := [vR 165]) (dg dc264 4 rfl) rfl rfl ?_
    refine ex_pu (ls' := [vR 165, vJ v1, vU, vU, vU]) (st' := [vR 165, vR 165]) (dg dc264 5 rfl) rfl rfl ?_
    refine ex_pu (ls' := [vR 165, vJ v1, vU, vU, vU]) (st' := [vJ v1, vR 165, vR 165]) (dg dc264 6 rfl) rfl rfl ?_
    refine ex_cJ (vs := [vR 165, vJ v1]) (st' := [vR 165]) (F := (mo_waits v1 M_2)) (Or.inr (Or.inl ⟨rfl, (dg dc264 7 rfl)⟩)) rfl rfl (rk1 (LOC.st (Nat.le_of_ble_eq_true rfl) rfl) rfl) rfl (fun _ r9 => mo_waits_ok (Z := Z) (d := e9) (by omega)  r9) hf (fun z_51 M_50 he_49 hf => ?_)
    refine ex_cI (vs := [vR 165, vJ z_51]) (st' := []) (F := (mo_isMet z_51 M_50)) (Or.inr (Or.inl ⟨rfl, (dg dc264 8 rfl)⟩)) rfl rfl (rk1 (LOC.st (Nat.le_of_ble_eq_true rfl) rfl) rfl) rfl (fun _ r9 => mo_isMet_ok (Z := Z) (d := e9) (by omega)  r9) hf (fun z_54 M_53 he_52 hf => ?_)
    refine ex_if (t := 25) (dg dc264 9 rfl) rfl hf (fun _ hf => ?_) (fun _ hf => ?_)
    · refine ex_pu (ls' := [vR 165, vJ v1, vU, vU, vU]) (st' := [vI 0]) (dg dc264 12 rfl) rfl rfl ?_
      exact mo_spreads_J26_ok hd   v1 0 M_53 _ _ hf
    · exact mo_spreads_J21_ok hd   v1 M_53 _ _ hf
-- GlassHillModel.searches
def il265 : List (Nat × Instr × Nat) := [(0, .iconst 0, 1), (1, .istore_n 1, 1), (2, .iload_n 1, 1), (3, .sipush 16384, 3), (6, .if_icmp .ge 16, 3), (9, .aload_n 0, 1), (10, .getfield 43, 3), (13, .iload_n 1, 1), (14, .iconst 0, 1), (15, .iastore, 1), (16, .iinc 1 1, 3), (19, .goto (-17), 3), (22, .aload_n 0, 1), (23, .iconst 0, 1), (24, .putfield 437, 3), (27, .aload_n 0, 1), (28, .aload_n 0, 1), (29, .invokevirtual 411, 3), (32, .invokevirtual 440, 3), (35, .istore_n 1, 1), (36, .iconst 0, 1), (37, .istore_n 2, 1), (38, .iload_n 2, 1), (39, .aload_n 0, 1), (40, .getfield 437, 3), (43, .if_icmp .ge 24, 3), (46, .iload_n 1, 1), (47, .ifCond .eq 20, 3), (50, .aload_n 0, 1), (51, .aload_n 0, 1), (52, .getfield 39, 3), (55, .iload_n 2, 1), (56, .laload, 1), (57, .invokevirtual 447, 3), (60, .istore_n 1, 1), (61, .iinc 2 1, 3), (64, .goto (-26), 3), (67, .iload_n 1, 1), (68, .ireturn, 1)]
theorem dc265 : dcs (mC 265) il265 := dc_of (by decide +kernel)
def mo_searches_L2  (K1 : MM → OR) : Nat → Int → MM → OR
  | 0, _, _ => none
  | n + 1, v1, M => (bif cmpB .ge v1 16384 then (K1  M) else (bif inB v1 16384 then (sM (mU M 174 (v1).toNat 0) fun M_1 => (mo_searches_L2  K1 n (v1 + 1) M_1)) else none))
set_option maxRecDepth 4000 in
theorem mo_searches_L2_ok {Z : Nat × (Nat → Int)} {d : Nat} (hd : 8 ≤ d)  {K1 : MM → OR} {res : AR × MM} (k1 : ∀ (M : MM) (j1 j2 : AV), K1  M = some res → EX Z d 265 22 [vR 165, j1, j2] [] M res) : ∀ (n : Nat) (v1 : Int) (M : MM) (j2 : AV), mo_searches_L2  K1 n v1 M = some res → EX Z d 265 2 [vR 165, vI v1, j2] [] M res := by
  obtain ⟨e9, rfl⟩ : ∃ e9, d = e9 + 1 := ⟨d - 1, by omega⟩
  intro n
  induction n with
  | zero =>
    intro v1 M j2 hf
    unfold mo_searches_L2 at hf
    cases hf
  | succ n ih =>
    intro v1 M j2 hf
    unfold mo_searches_L2 at hf
    refine ex_pu (ls' := [vR 165, vI v1, j2]) (st' := [vI v1]) (dg dc265 2 rfl) rfl rfl ?_
    refine ex_pu (ls' := [vR 165, vI v1, j2]) (st' := [vI 16384, vI v1]) (dg dc265 3 rfl) rfl rfl ?_
    refine ex_icmp (t := 22) (dg dc265 4 rfl) rfl hf (fun _ hf => ?_) (fun _ hf => ?_)
    · exact k1  M _ _ hf
    · refine ex_pu (ls' := [vR 165, vI v1, j2]) (st' := [vR 165]) (dg dc265 5 rfl) rfl rfl ?_
      refine ex_getO (dg dc265 6 rfl) rfl (LOC.st (Nat.le_of_ble_eq_true rfl) rfl) rfl ?_
      show EX Z _ 265 _ [vR 165, vI v1, j2] [vR 174] _ _
      refine ex_pu (ls' := [vR 165, vI v1, j2]) (st' := [vI v1, vR 174]) (dg dc265 7 rfl) rfl rfl ?_
      refine ex_pu (ls' := [vR 165, vI v1, j2]) (st' := [vI 0, vI v1, vR 174]) (dg dc265 8 rfl) rfl rfl ?_
      refine ex_iast (dg dc265 9 rfl) (LOC.st (Nat.le_of_ble_eq_true rfl) rfl) rfl rfl hf (fun _ hf => ?_)
      refine ex_gen hf (fun M_1 hM_2 hf => ?_)
      refine ex_pu (ls' := [vR 165, vI (v1 + 1), j2]) (st' := []) (dg dc265 10 rfl) rfl rfl ?_
      refine ex_goto (t := 2) (dg dc265 11 rfl) rfl rfl ?_
      exact ih (v1 + 1) M_1 _ hf
def mo_searches_L38  (K1 : Int → MM → OR) : Nat → Int → Int → MM → OR
  | 0, _, _, _ => none
  | n + 1, v1, v2, M => (bif cmpB .ge v2 (M 165 25) then (K1 v1 M) else (bif cmpB .eq v1 0 then (K1 v1 M) else (bif inB v2 6000 then (bI (mo_spreads (M 173 (v2).toNat) M) fun z_16 M_15 => (mo_searches_L38  K1 n z_16 (v2 + 1) M_15)) else none)))
set_option maxRecDepth 4000 in
theorem mo_searches_L38_ok {Z : Nat × (Nat → Int)} {d : Nat} (hd : 8 ≤ d)  {K1 : Int → MM → OR} {res : AR × MM} (k1 : ∀ (x1 : Int) (M : MM) (j0 j2 : AV), K1 x1 M = some res → EX Z d 265 67 [j0, vI x1, j2] [] M res) : ∀ (n : Nat) (v1 v2 : Int) (M : MM), mo_searches_L38  K1 n v1 v2 M = some res → EX Z d 265 38 [vR 165, vI v1, vI v2] [] M res := by
  obtain ⟨e9, rfl⟩ : ∃ e9, d = e9 + 1 := ⟨d - 1, by omega⟩
  intro n
  induction n with
  | zero =>
    intro v1 v2 M hf
    unfold mo_searches_L38 at hf
    cases hf
  | succ n ih =>
    intro v1 v2 M hf
    unfold mo_searches_L38 at hf
    refine ex_pu (ls' := [vR 165, vI v1, vI v2]) (st' := [vI v2]) (dg dc265 22 rfl) rfl rfl ?_
    refine ex_pu (ls' := [vR 165, vI v1, vI v2]) (st' := [vR 165, vI v2]) (dg dc265 23 rfl) rfl rfl ?_
    refine ex_getI (dg dc265 24 rfl) rfl (LOC.st (Nat.le_of_ble_eq_true rfl) rfl) rfl ?_
    refine ex_icmp (t := 67) (dg dc265 25 rfl) rfl hf (fun _ hf => ?_) (fun _ hf => ?_)
    · exact k1 v1 M _ _ hf
    · refine ex_pu (ls' := [vR 165, vI v1, vI v2]) (st' := [vI v1]) (dg dc265 26 rfl) rfl rfl ?_
      refine ex_if (t := 67) (dg dc265 27 rfl) rfl hf (fun _ hf => ?_) (fun _ hf => ?_)
      · exact k1 v1 M _ _ hf
      · refine ex_pu (ls' := [vR 165, vI v1, vI v2]) (st' := [vR 165]) (dg dc265 28 rfl) rfl rfl ?_
        refine ex_pu (ls' := [vR 165, vI v1, vI v2]) (st' := [vR 165, vR 165]) (dg dc265 29 rfl) rfl rfl ?_
        refine ex_getO (dg dc265 30 rfl) rfl (LOC.st (Nat.le_of_ble_eq_true rfl) rfl) rfl ?_
        show EX Z _ 265 _ [vR 165, vI v1, vI v2] [vR 173, vR 165] _ _
        refine ex_pu (ls' := [vR 165, vI v1, vI v2]) (st' := [vI v2, vR 173, vR 165]) (dg dc265 31 rfl) rfl rfl ?_
        refine ex_lald (dg dc265 32 rfl) (LOC.st (Nat.le_of_ble_eq_true rfl) rfl) rfl hf (fun _ hf => ?_)
        refine ex_cI (vs := [vR 165, vJ (M 173 (v2).toNat)]) (st' := []) (F := (mo_spreads (M 173 (v2).toNat) M)) (Or.inr (Or.inl ⟨rfl, (dg dc265 33 rfl)⟩)) rfl rfl (rk1 (LOC.st (Nat.le_of_ble_eq_true rfl) rfl) rfl) rfl (fun _ r9 => mo_spreads_ok (Z := Z) (d := e9) (by omega)  r9) hf (fun z_16 M_15 he_14 hf => ?_)
        refine ex_pu (ls' := [vR 165, vI z_16, vI v2]) (st' := []) (dg dc265 34 rfl) rfl rfl ?_
        refine ex_pu (ls' := [vR 165, vI z_16, vI (v2 + 1)]) (st' := []) (dg dc265 35 rfl) rfl rfl ?_
        refine ex_goto (t := 38) (dg dc265 36 rfl) rfl rfl ?_
        exact ih z_16 (v2 + 1) M_15 hf
def mo_searches  (M : MM) : OR :=
  (mo_searches_L2  (fun M_3 => (sM (mU M_3 165 25 0) fun M_6 => (bJ (mo_now  M_6) fun z_10 M_9 => (bI (mo_isMet z_10 M_9) fun z_13 M_12 => (mo_searches_L38  (fun v1_17 M_18 => (bif zo v1_17 then some (rI v1_17, M_18) else none)) FU z_13 0 M_12))))) FU 0 M)
set_option maxRecDepth 4000 in
theorem mo_searches_ok {Z : Nat × (Nat → Int)} {d : Nat} (hd : 8 ≤ d) {M : MM}  {res : AR × MM} (hf : mo_searches  M = some res) : EX Z d 265 0 (ent 265 [vR 165]) [] M res := by
  obtain ⟨e9, rfl⟩ : ∃ e9, d = e9 + 1 := ⟨d - 1, by omega⟩
  unfold mo_searches at hf
  show EX Z _ 265 0 [vR 165, vU, vU] [] M res
  refine ex_pu (ls' := [vR 165, vU, vU]) (st' := [vI 0]) (dg dc265 0 rfl) rfl rfl ?_
  refine ex_pu (ls' := [vR 165, vI 0, vU]) (st' := []) (dg dc265 1 rfl) rfl rfl ?_
  refine mo_searches_L2_ok hd  ?_ FU 0 M _ hf
  · intro M_3 j1_4 j2_5 hf
    refine ex_pu (ls' := [vR 165, j1_4, j2_5]) (st' := [vR 165]) (dg dc265 12 rfl) rfl rfl ?_
    refine ex_pu (ls' := [vR 165, j1_4, j2_5]) (st' := [vI 0, vR 165]) (dg dc265 13 rfl) rfl rfl ?_
    refine ex_putI (dg dc265 14 rfl) rfl (LOC.st (Nat.le_of_ble_eq_true rfl) rfl) rfl rfl rfl ?_
    refine ex_gen hf (fun M_6 hM_7 hf => ?_)
    refine ex_pu (ls' := [vR 165, j1_4, j2_5]) (st' := [vR 165]) (dg dc265 15 rfl) rfl rfl ?_
    refine ex_pu (ls' := [vR 165, j1_4, j2_5]) (st' := [vR 165, vR 165]) (dg dc265 16 rfl) rfl rfl ?_
    refine ex_cJ (vs := [vR 165]) (st' := [vR 165]) (F := (mo_now  M_6)) (Or.inr (Or.inl ⟨rfl, (dg dc265 17 rfl)⟩)) rfl rfl (rk1 (LOC.st (Nat.le_of_ble_eq_true rfl) rfl) rfl) rfl (fun _ r9 => mo_now_ok (Z := Z) (d := e9) (by omega)  r9) hf (fun z_10 M_9 he_8 hf => ?_)
    refine ex_cI (vs := [vR 165, vJ z_10]) (st' := []) (F := (mo_isMet z_10 M_9)) (Or.inr (Or.inl ⟨rfl, (dg dc265 18 rfl)⟩)) rfl rfl (rk1 (LOC.st (Nat.le_of_ble_eq_true rfl) rfl) rfl) rfl (fun _ r9 => mo_isMet_ok (Z := Z) (d := e9) (by omega)  r9) hf (fun z_13 M_12 he_11 hf => ?_)
    refine ex_pu (ls' := [vR 165, vI z_13, j2_5]) (st' := []) (dg dc265 19 rfl) rfl rfl ?_
    refine ex_pu (ls' := [vR 165, vI z_13, j2_5]) (st' := [vI 0]) (dg dc265 20 rfl) rfl rfl ?_
    refine ex_pu (ls' := [vR 165, vI z_13, vI 0]) (st' := []) (dg dc265 21 rfl) rfl rfl ?_
    refine mo_searches_L38_ok hd  ?_ FU z_13 0 M_12 hf
    · intro v1_17 M_18 j0_19 j2_20 hf
      refine ex_pu (ls' := [j0_19, vI v1_17, j2_20]) (st' := [vI v1_17]) (dg dc265 37 rfl) rfl rfl ?_
      exact ex_irb (dg dc265 38 rfl) rfl hf
-- GlassHillModel.soonest
def il267 : List (Nat × Instr × Nat) := [(0, .aload_n 0, 1), (1, .iconst 0, 1), (2, .putfield 3, 3), (5, .aload_n 0, 1), (6, .aload_n 0, 1), (7, .invokevirtual 76, 3), (10, .ifCond .ne 7, 3), (13, .iconst 1, 1), (14, .goto 4, 3), (17, .iconst 0, 1), (18, .iconst 1, 1), (19, .invokevirtual 274, 3), (22, .ifCond .eq 5, 3), (25, .iconst 0, 1), (26, .ireturn, 1), (27, .aload_n 0, 1), (28, .invokevirtual 450, 3), (31, .ifCond .ne 6, 3), (34, .bipush (-3), 2), (36, .ireturn, 1), (37, .aload_n 0, 1), (38, .iload_n 1, 1), (39, .invokevirtual 453, 3), (42, .istore_n 2, 1), (43, .iconst (-1), 1), (44, .istore_n 3, 1), (45, .iconst 0, 1), (46, .istore 4, 2), (48, .iload 4, 2), (50, .aload_n 0, 1), (51, .getfield 437, 3), (54, .if_icmp .ge 51, 3), (57, .aload_n 0, 1), (58, .getfield 39, 3), (61, .iload 4, 2), (63, .laload, 1), (64, .invokestatic 303, 3), (67, .istore 5, 2), (69, .iload_n 2, 1), (70, .aload_n 0, 1), (71, .getfield 39, 3), (74, .iload 4, 2), (76, .laload, 1), (77, .invokestatic 320, 3), (80, .iconst (-1), 1), (81, .ixor, 1), (82, .iand, 1), (83, .ifCond .ne 16, 3), (86, .iload_n 3, 1), (87, .ifCond .lt 9, 3), (90, .iload 5, 2), (92, .iload_n 3, 1), (93, .if_icmp .ge 6, 3), (96, .iload 5, 2), (98, .istore_n 3, 1), (99, .iinc 4 1, 3), (102, .goto (-54), 3), (105, .iload_n 3, 1), (106, .ireturn, 1)]
theorem dc267 : dcs (mC 267) il267 := dc_of (by decide +kernel)
def mo_soonest_L48  (v2 : Int) (K1 : Int → MM → OR) : Nat → Int → Int → MM → OR
  | 0, _, _, _ => none
  | n + 1, v3, v4, M => (bif cmpB .ge v4 (M 165 25) then (K1 v3 M) else (bif inB v4 6000 then (bI (mo_hoursOf (M 173 (v4).toNat) M) fun z_17 M_16 => (bif inB v4 6000 then (bI (mo_freedIn (M_16 173 (v4).toNat) M_16) fun z_20 M_19 => (bif cmpB .ne (iAnd v2 (iXor z_20 (-1))) 0 then (mo_soonest_L48 v2 K1 n v3 (v4 + 1) M_19) else (bif cmpB .lt v3 0 then (mo_soonest_L48 v2 K1 n z_17 (v4 + 1) M_19) else (bif cmpB .ge z_17 v3 then (mo_soonest_L48 v2 K1 n v3 (v4 + 1) M_19) else (mo_soonest_L48 v2 K1 n z_17 (v4 + 1) M_19))))) else none)) else none))
set_option maxRecDepth 4000 in
theorem mo_soonest_L48_ok {Z : Nat × (Nat → Int)} {d : Nat} (hd : 9 ≤ d)  {v2 : Int} {K1 : Int → MM → OR} {res : AR × MM} (k1 : ∀ (x3 : Int) (M : MM) (j0 j1 j2 j4 j5 : AV), K1 x3 M = some res → EX Z d 267 105 [j0, j1, j2, vI x3, j4, j5] [] M res) : ∀ (n : Nat) (v3 v4 : Int) (M : MM) (j1 j5 : AV), mo_soonest_L48 v2 K1 n v3 v4 M = some res → EX Z d 267 48 [vR 165, j1, vI v2, vI v3, vI v4, j5] [] M res := by
  obtain ⟨e9, rfl⟩ : ∃ e9, d = e9 + 1 := ⟨d - 1, by omega⟩
  intro n
  induction n with
  | zero =>
    intro v3 v4 M j1 j5 hf
    unfold mo_soonest_L48 at hf
    cases hf
  | succ n ih =>
    intro v3 v4 M j1 j5 hf
    unfold mo_soonest_L48 at hf
    refine ex_pu (ls' := [vR 165, j1, vI v2, vI v3, vI v4, j5]) (st' := [vI v4]) (dg dc267 28 rfl) rfl rfl ?_
    refine ex_pu (ls' := [vR 165, j1, vI v2, vI v3, vI v4, j5]) (st' := [vR 165, vI v4]) (dg dc267 29 rfl) rfl rfl ?_
    refine ex_getI (dg dc267 30 rfl) rfl (LOC.st (Nat.le_of_ble_eq_true rfl) rfl) rfl ?_
    refine ex_icmp (t := 105) (dg dc267 31 rfl) rfl hf (fun _ hf => ?_) (fun _ hf => ?_)
    · exact k1 v3 M _ _ _ _ _ hf
    · refine ex_pu (ls' := [vR 165, j1, vI v2, vI v3, vI v4, j5]) (st' := [vR 165]) (dg dc267 32 rfl) rfl rfl ?_
      refine ex_getO (dg dc267 33 rfl) rfl (LOC.st (Nat.le_of_ble_eq_true rfl) rfl) rfl ?_
      show EX Z _ 267 _ [vR 165, j1, vI v2, vI v3, vI v4, j5] [vR 173] _ _
      refine ex_pu (ls' := [vR 165, j1, vI v2, vI v3, vI v4, j5]) (st' := [vI v4, vR 173]) (dg dc267 34 rfl) rfl rfl ?_
      refine ex_lald (dg dc267 35 rfl) (LOC.st (Nat.le_of_ble_eq_true rfl) rfl) rfl hf (fun _ hf => ?_)
      refine ex_cI (vs := [vJ (M 173 (v4).toNat)]) (st' := []) (F := (mo_hoursOf (M 173 (v4).toNat) M)) (Or.inl ⟨rfl, (dg dc267 36 rfl)⟩) rfl rfl (Or.inl rfl) rfl (fun _ r9 => mo_hoursOf_ok (Z := Z) (d := e9) (by omega)  r9) hf (fun z_17 M_16 he_15 hf => ?_)
      refine ex_pu (ls' := [vR 165, j1, vI v2, vI v3, vI v4, vI z_17]) (st' := []) (dg dc267 37 rfl) rfl rfl ?_
      refine ex_pu (ls' := [vR 165, j1, vI v2, vI v3, vI v4, vI z_17]) (st' := [vI v2]) (dg dc267 38 rfl) rfl rfl ?_
      refine ex_pu (ls' := [vR 165, j1, vI v2, vI v3, vI v4, vI z_17]) (st' := [vR 165, vI v2]) (dg dc267 39 rfl) rfl rfl ?_
      refine ex_getO (dg dc267 40 rfl) rfl (LOC.st (Nat.le_of_ble_eq_true rfl) rfl) rfl ?_
      show EX Z _ 267 _ [vR 165, j1, vI v2, vI v3, vI v4, vI z_17] [vR 173, vI v2] _ _
      refine ex_pu (ls' := [vR 165, j1, vI v2, vI v3, vI v4, vI z_17]) (st' := [vI v4, vR 173, vI v2]) (dg dc267 41 rfl) rfl rfl ?_
      refine ex_lald (dg dc267 42 rfl) (LOC.st (Nat.le_of_ble_eq_true rfl) rfl) rfl hf (fun _ hf => ?_)
      refine ex_cI (vs := [vJ (M_16 173 (v4).toNat)]) (st' := [vI v2]) (F := (mo_freedIn (M_16 173 (v4).toNat) M_16)) (Or.inl ⟨rfl, (dg dc267 43 rfl)⟩) rfl rfl (Or.inl rfl) rfl (fun _ r9 => mo_freedIn_ok (Z := Z) (d := e9) (by omega)  r9) hf (fun z_20 M_19 he_18 hf => ?_)
      refine ex_pu (ls' := [vR 165, j1, vI v2, vI v3, vI v4, vI z_17]) (st' := [vI (-1), vI z_20, vI v2]) (dg dc267 44 rfl) rfl rfl ?_
      refine ex_pu (ls' := [vR 165, j1, vI v2, vI v3, vI v4, vI z_17]) (st' := [vI (iXor z_20 (-1)), vI v2]) (dg dc267 45 rfl) rfl rfl ?_
      refine ex_pu (ls' := [vR 165, j1, vI v2, vI v3, vI v4, vI z_17]) (st' := [vI (iAnd v2 (iXor z_20 (-1)))]) (dg dc267 46 rfl) rfl rfl ?_
      refine ex_if (t := 99) (dg dc267 47 rfl) rfl hf (fun _ hf => ?_) (fun _ hf => ?_)
      · refine ex_pu (ls' := [vR 165, j1, vI v2, vI v3, vI (v4 + 1), vI z_17]) (st' := []) (dg dc267 55 rfl) rfl rfl ?_
        refine ex_goto (t := 48) (dg dc267 56 rfl) rfl rfl ?_
        exact ih v3 (v4 + 1) M_19 _ _ hf
      · refine ex_pu (ls' := [vR 165, j1, vI v2, vI v3, vI v4, vI z_17]) (st' := [vI v3]) (dg dc267 48 rfl) rfl rfl ?_
        refine ex_if (t := 96) (dg dc267 49 rfl) rfl hf (fun _ hf => ?_) (fun _ hf => ?_)
        · refine ex_pu (ls' := [vR 165, j1, vI v2, vI v3, vI v4, vI z_17]) (st' := [vI z_17]) (dg dc267 53 rfl) rfl rfl ?_
          refine ex_pu (ls' := [vR 165, j1, vI v2, vI z_17, vI v4, vI z_17]) (st' := []) (dg dc267 54 rfl) rfl rfl ?_
          refine ex_pu (ls' := [vR 165, j1, vI v2, vI z_17, vI (v4 + 1), vI z_17]) (st' := []) (dg dc267 55 rfl) rfl rfl ?_
          refine ex_goto (t := 48) (dg dc267 56 rfl) rfl rfl ?_
          exact ih z_17 (v4 + 1) M_19 _ _ hf
        · refine ex_pu (ls' := [vR 165, j1, vI v2, vI v3, vI v4, vI z_17]) (st' := [vI z_17]) (dg dc267 50 rfl) rfl rfl ?_
          refine ex_pu (ls' := [vR 165, j1, vI v2, vI v3, vI v4, vI z_17]) (st' := [vI v3, vI z_17]) (dg dc267 51 rfl) rfl rfl ?_
          refine ex_icmp (t := 99) (dg dc267 52 rfl) rfl hf (fun _ hf => ?_) (fun _ hf => ?_)
          · refine ex_pu (ls' := [vR 165, j1, vI v2, vI v3, vI (v4 + 1), vI z_17]) (st' := []) (dg dc267 55 rfl) rfl rfl ?_
            refine ex_goto (t := 48) (dg dc267 56 rfl) rfl rfl ?_
            exact ih v3 (v4 + 1) M_19 _ _ hf
          · refine ex_pu (ls' := [vR 165, j1, vI v2, vI v3, vI v4, vI z_17]) (st' := [vI z_17]) (dg dc267 53 rfl) rfl rfl ?_
            refine ex_pu (ls' := [vR 165, j1, vI v2, vI z_17, vI v4, vI z_17]) (st' := []) (dg dc267 54 rfl) rfl rfl ?_
            refine ex_pu (ls' := [vR 165, j1, vI v2, vI z_17, vI (v4 + 1), vI z_17]) (st' := []) (dg dc267 55 rfl) rfl rfl ?_
            refine ex_goto (t := 48) (dg dc267 56 rfl) rfl rfl ?_
            exact ih z_17 (v4 + 1) M_19 _ _ hf
def mo_soonest_J18   (v1 s0 : Int) (M : MM) : OR :=
  (bI (mo_throwsIf s0 1 M) fun z_8 M_7 => (bif cmpB .eq z_8 0 then (bI (mo_searches  M_7) fun z_11 M_10 => (bif cmpB .ne z_11 0 then (bI (mo_allBrothers v1 M_10) fun z_14 M_13 => (mo_soonest_L48 z_14 (fun v3_21 M_22 => some (rI v3_21, M_22)) FU (-1) 0 M_13)) else some (rI (-3), M_10))) else some (rI 0, M_7)))
set_option maxRecDepth 4000 in
theorem mo_soonest_J18_ok {Z : Nat × (Nat → Int)} {d : Nat} (hd : 9 ≤ d)   {res : AR × MM}  : ∀ (v1 s0 : Int) (M : MM) (j2 j3 j4 j5 : AV), mo_soonest_J18   v1 s0 M = some res → EX Z d 267 18 [vR 165, vI v1, j2, j3, j4, j5] [vI s0, vR 165] M res := by
  obtain ⟨e9, rfl⟩ : ∃ e9, d = e9 + 1 := ⟨d - 1, by omega⟩
  intro v1 s0 M j2 j3 j4 j5 hf
  unfold mo_soonest_J18 at hf
  refine ex_pu (ls' := [vR 165, vI v1, j2, j3, j4, j5]) (st' := [vI 1, vI s0, vR 165]) (dg dc267 10 rfl) rfl rfl ?_
  refine ex_cI (vs := [vR 165, vI s0, vI 1]) (st' := []) (F := (mo_throwsIf s0 1 M)) (Or.inr (Or.inl ⟨rfl, (dg dc267 11 rfl)⟩)) rfl rfl (rk1 (LOC.st (Nat.le_of_ble_eq_true rfl) rfl) rfl) rfl (fun _ r9 => mo_throwsIf_ok (Z := Z) (d := e9) (by omega)  r9) hf (fun z_8 M_7 he_6 hf => ?_)
  refine ex_if (t := 27) (dg dc267 12 rfl) rfl hf (fun _ hf => ?_) (fun _ hf => ?_)
  · refine ex_pu (ls' := [vR 165, vI v1, j2, j3, j4, j5]) (st' := [vR 165]) (dg dc267 15 rfl) rfl rfl ?_
    refine ex_cI (vs := [vR 165]) (st' := []) (F := (mo_searches  M_7)) (Or.inr (Or.inl ⟨rfl, (dg dc267 16 rfl)⟩)) rfl rfl (rk1 (LOC.st (Nat.le_of_ble_eq_true rfl) rfl) rfl) rfl (fun _ r9 => mo_searches_ok (Z := Z) (d := e9) (by omega)  r9) hf (fun z_11 M_10 he_9 hf => ?_)
    refine ex_if (t := 37) (dg dc267 17 rfl) rfl hf (fun _ hf => ?_) (fun _ hf => ?_)
    · refine ex_pu (ls' := [vR 165, vI v1, j2, j3, j4, j5]) (st' := [vR 165]) (dg dc267 20 rfl) rfl rfl ?_
      refine ex_pu (ls' := [vR 165, vI v1, j2, j3, j4, j5]) (st' := [vI v1, vR 165]) (dg dc267 21 rfl) rfl rfl ?_
      refine ex_cI (vs := [vR 165, vI v1]) (st' := []) (F := (mo_allBrothers v1 M_10)) (Or.inr (Or.inl ⟨rfl, (dg dc267 22 rfl)⟩)) rfl rfl (rk1 (LOC.st (Nat.le_of_ble_eq_true rfl) rfl) rfl) rfl (fun _ r9 => mo_allBrothers_ok (Z := Z) (d := e9) (by omega)  r9) hf (fun z_14 M_13 he_12 hf => ?_)
      refine ex_pu (ls' := [vR 165, vI v1, vI z_14, j3, j4, j5]) (st' := []) (dg dc267 23 rfl) rfl rfl ?_
      refine ex_pu (ls' := [vR 165, vI v1, vI z_14, j3, j4, j5]) (st' := [vI (-1)]) (dg dc267 24 rfl) rfl rfl ?_
      refine ex_pu (ls' := [vR 165, vI v1, vI z_14, vI (-1), j4, j5]) (st' := []) (dg dc267 25 rfl) rfl rfl ?_
      refine ex_pu (ls' := [vR 165, vI v1, vI z_14, vI (-1), j4, j5]) (st' := [vI 0]) (dg dc267 26 rfl) rfl rfl ?_
      refine ex_pu (ls' := [vR 165, vI v1, vI z_14, vI (-1), vI 0, j5]) (st' := []) (dg dc267 27 rfl) rfl rfl ?_
      refine mo_soonest_L48_ok hd  ?_ FU (-1) 0 M_13 _ _ hf
      · intro v3_21 M_22 j0_23 j1_24 j2_25 j4_26 j5_27 hf
        refine ex_pu (ls' := [j0_23, j1_24, j2_25, vI v3_21, j4_26, j5_27]) (st' := [vI v3_21]) (dg dc267 57 rfl) rfl rfl ?_
        exact ex_ire (dg dc267 58 rfl) rfl hf
    · refine ex_pu (ls' := [vR 165, vI v1, j2, j3, j4, j5]) (st' := [vI (-3)]) (dg dc267 18 rfl) rfl rfl ?_
      exact ex_ire (dg dc267 19 rfl) rfl hf
  · refine ex_pu (ls' := [vR 165, vI v1, j2, j3, j4, j5]) (st' := [vI 0]) (dg dc267 13 rfl) rfl rfl ?_
    exact ex_ire (dg dc267 14 rfl) rfl hf
def mo_soonest (v1 : Int) (M : MM) : OR :=
  (sM (mU M 165 0 0) fun M_1 => (bI (mo_places  M_1) fun z_5 M_4 => (bif cmpB .ne z_5 0 then (mo_soonest_J18   v1 0 M_4) else (mo_soonest_J18   v1 1 M_4))))
set_option maxRecDepth 4000 in
theorem mo_soonest_ok {Z : Nat × (Nat → Int)} {d : Nat} (hd : 9 ≤ d) {M : MM}  {v1 : Int} {res : AR × MM} (hf : mo_soonest v1 M = some res) : EX Z d 267 0 (ent 267 [vR 165, vI v1]) [] M res := by
  obtain ⟨e9, rfl⟩ : ∃ e9, d = e9 + 1 := ⟨d - 1, by omega⟩
  unfold mo_soonest at hf
  show EX Z _ 267 0 [vR 165, vI v1, vU, vU, vU, vU] [] M res
  refine ex_pu (ls' := [vR 165, vI v1, vU, vU, vU, vU]) (st' := [vR 165]) (dg dc267 0 rfl) rfl rfl ?_
  refine ex_pu (ls' := [vR 165, vI v1, vU, vU, vU, vU]) (st' := [vI 0, vR 165]) (dg dc267 1 rfl) rfl rfl ?_
  refine ex_putI (dg dc267 2 rfl) rfl (LOC.st (Nat.le_of_ble_eq_true rfl) rfl) rfl rfl rfl ?_
  refine ex_gen hf (fun M_1 hM_2 hf => ?_)
  refine ex_pu (ls' := [vR 165, vI v1, vU, vU, vU, vU]) (st' := [vR 165]) (dg dc267 3 rfl) rfl rfl ?_
  refine ex_pu (ls' := [vR 165, vI v1, vU, vU, vU, vU]) (st' := [vR 165, vR 165]) (dg dc267 4 rfl) rfl rfl ?_
  refine ex_cI (vs := [vR 165]) (st' := [vR 165]) (F := (mo_places  M_1)) (Or.inr (Or.inl ⟨rfl, (dg dc267 5 rfl)⟩)) rfl rfl (rk1 (LOC.st (Nat.le_of_ble_eq_true rfl) rfl) rfl) rfl (fun _ r9 => mo_places_ok (Z := Z) (d := e9) (by omega)  r9) hf (fun z_5 M_4 he_3 hf => ?_)
  refine ex_if (t := 17) (dg dc267 6 rfl) rfl hf (fun _ hf => ?_) (fun _ hf => ?_)
  · refine ex_pu (ls' := [vR 165, vI v1, vU, vU, vU, vU]) (st' := [vI 0, vR 165]) (dg dc267 9 rfl) rfl rfl ?_
    exact mo_soonest_J18_ok hd   v1 0 M_4 _ _ _ _ hf
  · refine ex_pu (ls' := [vR 165, vI v1, vU, vU, vU, vU]) (st' := [vI 1, vR 165]) (dg dc267 7 rfl) rfl rfl ?_
    refine ex_goto (t := 18) (dg dc267 8 rfl) rfl rfl ?_
    exact mo_soonest_J18_ok hd   v1 1 M_4 _ _ _ _ hf
-- GlassHillModel.reached
def il268 : List (Nat × Instr × Nat) := [(0, .aload_n 0, 1), (1, .iconst 0, 1), (2, .putfield 3, 3), (5, .aload_n 0, 1), (6, .aload_n 0, 1), (7, .iload_n 1, 1), (8, .invokevirtual 393, 3), (11, .iconst 1, 1), (12, .invokevirtual 274, 3), (15, .ifCond .eq 5, 3), (18, .iconst 0, 1), (19, .ireturn, 1), (20, .aload_n 0, 1), (21, .invokevirtual 450, 3), (24, .ifCond .ne 6, 3), (27, .bipush (-3), 2), (29, .ireturn, 1), (30, .iconst (-1), 1), (31, .istore_n 2, 1), (32, .iconst 0, 1), (33, .istore_n 3, 1), (34, .iload_n 3, 1), (35, .aload_n 0, 1), (36, .getfield 437, 3), (39, .if_icmp .ge 49, 3), (42, .aload_n 0, 1), (43, .getfield 39, 3), (46, .iload_n 3, 1), (47, .laload, 1), (48, .invokestatic 307, 3), (51, .iload_n 1, 1), (52, .if_icmp .ne 30, 3), (55, .iload_n 2, 1), (56, .ifCond .lt 16, 3), (59, .aload_n 0, 1), (60, .getfield 39, 3), (63, .iload_n 3, 1), (64, .laload, 1), (65, .invokestatic 303, 3), (68, .iload_n 2, 1), (69, .if_icmp .ge 13, 3), (72, .aload_n 0, 1), (73, .getfield 39, 3), (76, .iload_n 3, 1), (77, .laload, 1), (78, .invokestatic 303, 3), (81, .istore_n 2, 1), (82, .iinc 3 1, 3), (85, .goto (-51), 3), (88, .iload_n 2, 1), (89, .ireturn, 1)]
theorem dc268 : dcs (mC 268) il268 := dc_of (by decide +kernel)
def mo_reached_L34  (v1 : Int) (K1 : Int → MM → OR) : Nat → Int → Int → MM → OR
  | 0, _, _, _ => none
  | n + 1, v2, v3, M => (bif cmpB .ge v3 (M 165 25) then (K1 v2 M) else (bif inB v3 6000 then (bI (mo_placeOf (M 173 (v3).toNat) M) fun z_14 M_13 => (bif cmpB .ne z_14 v1 then (mo_reached_L34 v1 K1 n v2 (v3 + 1) M_13) else (bif cmpB .lt v2 0 then (bif inB v3 6000 then (bI (mo_hoursOf (M_13 173 (v3).toNat) M_13) fun z_17 M_16 => (mo_reached_L34 v1 K1 n z_17 (v3 + 1) M_16)) else none) else (bif inB v3 6000 then (bI (mo_hoursOf (M_13 173 (v3).toNat) M_13) fun z_20 M_19 => (bif cmpB .ge z_20 v2 then (mo_reached_L34 v1 K1 n v2 (v3 + 1) M_19) else (bif inB v3 6000 then (bI (mo_hoursOf (M_19 173 (v3).toNat) M_19) fun z_23 M_22 => (mo_reached_L34 v1 K1 n z_23 (v3 + 1) M_22)) else none))) else none)))) else none))
set_option maxRecDepth 4000 in
theorem mo_reached_L34_ok {Z : Nat × (Nat → Int)} {d : Nat} (hd : 9 ≤ d)  {v1 : Int} {K1 : Int → MM → OR} {res : AR × MM} (k1 : ∀ (x2 : Int) (M : MM) (j0 j1 j3 : AV), K1 x2 M = some res → EX Z d 268 88 [j0, j1, vI x2, j3] [] M res) : ∀ (n : Nat) (v2 v3 : Int) (M : MM), mo_reached_L34 v1 K1 n v2 v3 M = some res → EX Z d 268 34 [vR 165, vI v1, vI v2, vI v3] [] M res := by
  obtain ⟨e9, rfl⟩ : ∃ e9, d = e9 + 1 := ⟨d - 1, by omega⟩
  intro n
  induction n with
  | zero =>
    intro v2 v3 M hf
    unfold mo_reached_L34 at hf
    cases hf
  | succ n ih =>
    intro v2 v3 M hf
    unfold mo_reached_L34 at hf
    refine ex_pu (ls' := [vR 165, vI v1, vI v2, vI v3]) (st' := [vI v3]) (dg dc268 21 rfl) rfl rfl ?_
    refine ex_pu (ls' := [vR 165, vI v1, vI v2, vI v3]) (st' := [vR 165, vI v3]) (dg dc268 22 rfl) rfl rfl ?_
    refine ex_getI (dg dc268 23 rfl) rfl (LOC.st (Nat.le_of_ble_eq_true rfl) rfl) rfl ?_
    refine ex_icmp (t := 88) (dg dc268 24 rfl) rfl hf (fun _ hf => ?_) (fun _ hf => ?_)
    · exact k1 v2 M _ _ _ hf
    · refine ex_pu (ls' := [vR 165, vI v1, vI v2, vI v3]) (st' := [vR 165]) (dg dc268 25 rfl) rfl rfl ?_
      refine ex_getO (dg dc268 26 rfl) rfl (LOC.st (Nat.le_of_ble_eq_true rfl) rfl) rfl ?_
      show EX Z _ 268 _ [vR 165, vI v1, vI v2, vI v3] [vR 173] _ _
      refine ex_pu (ls' := [vR 165, vI v1, vI v2, vI v3]) (st' := [vI v3, vR 173]) (dg dc268 27 rfl) rfl rfl ?_
      refine ex_lald (dg dc268 28 rfl) (LOC.st (Nat.le_of_ble_eq_true rfl) rfl) rfl hf (fun _ hf => ?_)
      refine ex_cI (vs := [vJ (M 173 (v3).toNat)]) (st' := []) (F := (mo_placeOf (M 173 (v3).toNat) M)) (Or.inl ⟨rfl, (dg dc268 29 rfl)⟩) rfl rfl (Or.inl rfl) rfl (fun _ r9 => mo_placeOf_ok (Z := Z) (d := e9) (by omega)  r9) hf (fun z_14 M_13 he_12 hf => ?_)
      refine ex_pu (ls' := [vR 165, vI v1, vI v2, vI v3]) (st' := [vI v1, vI z_14]) (dg dc268 30 rfl) rfl rfl ?_
      refine ex_icmp (t := 82) (dg dc268 31 rfl) rfl hf (fun _ hf => ?_) (fun _ hf => ?_)
      · refine ex_pu (ls' := [vR 165, vI v1, vI v2, vI (v3 + 1)]) (st' := []) (dg dc268 47 rfl) rfl rfl ?_
        refine ex_goto (t := 34) (dg dc268 48 rfl) rfl rfl ?_
        exact ih v2 (v3 + 1) M_13 hf
      · refine ex_pu (ls' := [vR 165, vI v1, vI v2, vI v3]) (st' := [vI v2]) (dg dc268 32 rfl) rfl rfl ?_
        refine ex_if (t := 72) (dg dc268 33 rfl) rfl hf (fun _ hf => ?_) (fun _ hf => ?_)
        · refine ex_pu (ls' := [vR 165, vI v1, vI v2, vI v3]) (st' := [vR 165]) (dg dc268 41 rfl) rfl rfl ?_
          refine ex_getO (dg dc268 42 rfl) rfl (LOC.st (Nat.le_of_ble_eq_true rfl) rfl) rfl ?_
          show EX Z _ 268 _ [vR 165, vI v1, vI v2, vI v3] [vR 173] _ _
          refine ex_pu (ls' := [vR 165, vI v1, vI v2, vI v3]) (st' := [vI v3, vR 173]) (dg dc268 43 rfl) rfl rfl ?_
          refine ex_lald (dg dc268 44 rfl) (LOC.st (Nat.le_of_ble_eq_true rfl) rfl) rfl hf (fun _ hf => ?_)
          refine ex_cI (vs := [vJ (M_13 173 (v3).toNat)]) (st' := []) (F := (mo_hoursOf (M_13 173 (v3).toNat) M_13)) (Or.inl ⟨rfl, (dg dc268 45 rfl)⟩) rfl rfl (Or.inl rfl) rfl (fun _ r9 => mo_hoursOf_ok (Z := Z) (d := e9) (by omega)  r9) hf (fun z_17 M_16 he_15 hf => ?_)
          refine ex_pu (ls' := [vR 165, vI v1, vI z_17, vI v3]) (st' := []) (dg dc268 46 rfl) rfl rfl ?_
          refine ex_pu (ls' := [vR 165, vI v1, vI z_17, vI (v3 + 1)]) (st' := []) (dg dc268 47 rfl) rfl rfl ?_
          refine ex_goto (t := 34) (dg dc268 48 rfl) rfl rfl ?_
          exact ih z_17 (v3 + 1) M_16 hf
        · refine ex_pu (ls' := [vR 165, vI v1, vI v2, vI v3]) (st' := [vR 165]) (dg dc268 34 rfl) rfl rfl ?_
          refine ex_getO (dg dc268 35 rfl) rfl (LOC.st (Nat.le_of_ble_eq_true rfl) rfl) rfl ?_
          show EX Z _ 268 _ [vR 165, vI v1, vI v2, vI v3] [vR 173] _ _
          refine ex_pu (ls' := [vR 165, vI v1, vI v2, vI v3]) (st' := [vI v3, vR 173]) (dg dc268 36 rfl) rfl rfl ?_
          refine ex_lald (dg dc268 37 rfl) (LOC.st (Nat.le_of_ble_eq_true rfl) rfl) rfl hf (fun _ hf => ?_)
          refine ex_cI (vs := [vJ (M_13 173 (v3).toNat)]) (st' := []) (F := (mo_hoursOf (M_13 173 (v3).toNat) M_13)) (Or.inl ⟨rfl, (dg dc268 38 rfl)⟩) rfl rfl (Or.inl rfl) rfl (fun _ r9 => mo_hoursOf_ok (Z := Z) (d := e9) (by omega)  r9) hf (fun z_20 M_19 he_18 hf => ?_)
          refine ex_pu (ls' := [vR 165, vI v1, vI v2, vI v3]) (st' := [vI v2, vI z_20]) (dg dc268 39 rfl) rfl rfl ?_
          refine ex_icmp (t := 82) (dg dc268 40 rfl) rfl hf (fun _ hf => ?_) (fun _ hf => ?_)
          · refine ex_pu (ls' := [vR 165, vI v1, vI v2, vI (v3 + 1)]) (st' := []) (dg dc268 47 rfl) rfl rfl ?_
            refine ex_goto (t := 34) (dg dc268 48 rfl) rfl rfl ?_
            exact ih v2 (v3 + 1) M_19 hf
          · refine ex_pu (ls' := [vR 165, vI v1, vI v2, vI v3]) (st' := [vR 165]) (dg dc268 41 rfl) rfl rfl ?_
            refine ex_getO (dg dc268 42 rfl) rfl (LOC.st (Nat.le_of_ble_eq_true rfl) rfl) rfl ?_
            show EX Z _ 268 _ [vR 165, vI v1, vI v2, vI v3] [vR 173] _ _
            refine ex_pu (ls' := [vR 165, vI v1, vI v2, vI v3]) (st' := [vI v3, vR 173]) (dg dc268 43 rfl) rfl rfl ?_
            refine ex_lald (dg dc268 44 rfl) (LOC.st (Nat.le_of_ble_eq_true rfl) rfl) rfl hf (fun _ hf => ?_)
            refine ex_cI (vs := [vJ (M_19 173 (v3).toNat)]) (st' := []) (F := (mo_hoursOf (M_19 173 (v3).toNat) M_19)) (Or.inl ⟨rfl, (dg dc268 45 rfl)⟩) rfl rfl (Or.inl rfl) rfl (fun _ r9 => mo_hoursOf_ok (Z := Z) (d := e9) (by omega)  r9) hf (fun z_23 M_22 he_21 hf => ?_)
            refine ex_pu (ls' := [vR 165, vI v1, vI z_23, vI v3]) (st' := []) (dg dc268 46 rfl) rfl rfl ?_
            refine ex_pu (ls' := [vR 165, vI v1, vI z_23, vI (v3 + 1)]) (st' := []) (dg dc268 47 rfl) rfl rfl ?_
            refine ex_goto (t := 34) (dg dc268 48 rfl) rfl rfl ?_
            exact ih z_23 (v3 + 1) M_22 hf
def mo_reached (v1 : Int) (M : MM) : OR :=
  (sM (mU M 165 0 0) fun M_1 => (bI (mo_noPlace v1 M_1) fun z_5 M_4 => (bI (mo_throwsIf z_5 1 M_4) fun z_8 M_7 => (bif cmpB .eq z_8 0 then (bI (mo_searches  M_7) fun z_11 M_10 => (bif cmpB .ne z_11 0 then (mo_reached_L34 v1 (fun v2_24 M_25 => some (rI v2_24, M_25)) FU (-1) 0 M_10) else some (rI (-3), M_10))) else some (rI 0, M_7)))))
set_option maxRecDepth 4000 in
theorem mo_reached_ok {Z : Nat × (Nat → Int)} {d : Nat} (hd : 9 ≤ d) {M : MM}  {v1 : Int} {res : AR × MM} (hf : mo_reached v1 M = some res) : EX Z d 268 0 (ent 268 [vR 165, vI v1]) [] M res := by
  obtain ⟨e9, rfl⟩ : ∃ e9, d = e9 + 1 := ⟨d - 1, by omega⟩
  unfold mo_reached at hf
  show EX Z _ 268 0 [vR 165, vI v1, vU, vU] [] M res
  refine ex_pu (ls' := [vR 165, vI v1, vU, vU]) (st' := [vR 165]) (dg dc268 0 rfl) rfl rfl ?_
  refine ex_pu (ls' := [vR 165, vI v1, vU, vU]) (st' := [vI 0, vR 165]) (dg dc268 1 rfl) rfl rfl ?_
  refine ex_putI (dg dc268 2 rfl) rfl (LOC.st (Nat.le_of_ble_eq_true rfl) rfl) rfl rfl rfl ?_
  refine ex_gen hf (fun M_1 hM_2 hf => ?_)
  refine ex_pu (ls' := [vR 165, vI v1, vU, vU]) (st' := [vR 165]) (dg dc268 3 rfl) rfl rfl ?_
  refine ex_pu (ls' := [vR 165, vI v1, vU, vU]) (st' := [vR 165, vR 165]) (dg dc268 4 rfl) rfl rfl ?_
  refine ex_pu (ls' := [vR 165, vI v1, vU, vU]) (st' := [vI v1, vR 165, vR 165]) (dg dc268 5 rfl) rfl rfl ?_
  refine ex_cI (vs := [vR 165, vI v1]) (st' := [vR 165]) (F := (mo_noPlace v1 M_1)) (Or.inr (Or.inl ⟨rfl, (dg dc268 6 rfl)⟩)) rfl rfl (rk1 (LOC.st (Nat.le_of_ble_eq_true rfl) rfl) rfl) rfl (fun _ r9 => mo_noPlace_ok (Z := Z) (d := e9) (by omega)  r9) hf (fun z_5 M_4 he_3 hf => ?_)
  refine ex_pu (ls' := [vR 165, vI v1, vU, vU]) (st' := [vI 1, vI z_5, vR 165]) (dg dc268 7 rfl) rfl rfl ?_
  refine ex_cI (vs := [vR 165, vI z_5, vI 1]) (st' := []) (F := (mo_throwsIf z_5 1 M_4)) (Or.inr (Or.inl ⟨rfl, (dg dc268 8 rfl)⟩)) rfl rfl (rk1 (LOC.st (Nat.le_of_ble_eq_true rfl) rfl) rfl) rfl (fun _ r9 => mo_throwsIf_ok (Z := Z) (d := e9) (by omega)  r9) hf (fun z_8 M_7 he_6 hf => ?_)
  refine ex_if (t := 20) (dg dc268 9 rfl) rfl hf (fun _ hf => ?_) (fun _ hf => ?_)
  · refine ex_pu (ls' := [vR 165, vI v1, vU, vU]) (st' := [vR 165]) (dg dc268 12 rfl) rfl rfl ?_
    refine ex_cI (vs := [vR 165]) (st' := []) (F := (mo_searches  M_7)) (Or.inr (Or.inl ⟨rfl, (dg dc268 13 rfl)⟩)) rfl rfl (rk1 (LOC.st (Nat.le_of_ble_eq_true rfl) rfl) rfl) rfl (fun _ r9 => mo_searches_ok (Z := Z) (d := e9) (by omega)  r9) hf (fun z_11 M_10 he_9 hf => ?_)
    refine ex_if (t := 30) (dg dc268 14 rfl) rfl hf (fun _ hf => ?_) (fun _ hf => ?_)
    · refine ex_pu (ls' := [vR 165, vI v1, vU, vU]) (st' := [vI (-1)]) (dg dc268 17 rfl) rfl rfl ?_
      refine ex_pu (ls' := [vR 165, vI v1, vI (-1), vU]) (st' := []) (dg dc268 18 rfl) rfl rfl ?_
      refine ex_pu (ls' := [vR 165, vI v1, vI (-1), vU]) (st' := [vI 0]) (dg dc268 19 rfl) rfl rfl ?_
      refine ex_pu (ls' := [vR 165, vI v1, vI (-1), vI 0]) (st' := []) (dg dc268 20 rfl) rfl rfl ?_
      refine mo_reached_L34_ok hd  ?_ FU (-1) 0 M_10 hf
      · intro v2_24 M_25 j0_26 j1_27 j3_28 hf
        refine ex_pu (ls' := [j0_26, j1_27, vI v2_24, j3_28]) (st' := [vI v2_24]) (dg dc268 49 rfl) rfl rfl ?_
        exact ex_ire (dg dc268 50 rfl) rfl hf
    · refine ex_pu (ls' := [vR 165, vI v1, vU, vU]) (st' := [vI (-3)]) (dg dc268 15 rfl) rfl rfl ?_
      exact ex_ire (dg dc268 16 rfl) rfl hf
  · refine ex_pu (ls' := [vR 165, vI v1, vU, vU]) (st' := [vI 0]) (dg dc268 10 rfl) rfl rfl ?_
    exact ex_ire (dg dc268 11 rfl) rfl hf
-- GlassHillModel.spared
def il269 : List (Nat × Instr × Nat) := [(0, .aload_n 0, 1), (1, .iconst 0, 1), (2, .putfield 3, 3), (5, .aload_n 0, 1), (6, .aload_n 0, 1), (7, .invokevirtual 76, 3), (10, .ifCond .ne 7, 3), (13, .iconst 1, 1), (14, .goto 4, 3), (17, .iconst 0, 1), (18, .iconst 1, 1), (19, .invokevirtual 274, 3), (22, .ifCond .eq 5, 3), (25, .iconst 0, 1), (26, .ireturn, 1), (27, .aload_n 0, 1), (28, .invokevirtual 450, 3), (31, .ifCond .ne 6, 3), (34, .bipush (-3), 2), (36, .ireturn, 1), (37, .aload_n 0, 1), (38, .iload_n 1, 1), (39, .invokevirtual 453, 3), (42, .istore_n 2, 1), (43, .aload_n 0, 1), (44, .aload_n 0, 1), (45, .getfield 39, 3), (48, .iconst 0, 1), (49, .laload, 1), (50, .iconst 3, 1), (51, .invokevirtual 358, 3), (54, .istore_n 3, 1), (55, .iconst (-1), 1), (56, .istore 4, 2), (58, .iconst 0, 1), (59, .istore 5, 2), (61, .iload 5, 2), (63, .aload_n 0, 1), (64, .getfield 437, 3), (67, .if_icmp .ge 64, 3), (70, .aload_n 0, 1), (71, .aload_n 0, 1), (72, .aload_n 0, 1), (73, .getfield 39, 3), (76, .iload 5, 2), (78, .laload, 1), (79, .iconst 3, 1), (80, .invokevirtual 358, 3), (83, .iload_n 3, 1), (84, .iconst (-1), 1), (85, .ixor, 1), (86, .iand, 1), (87, .invokevirtual 367, 3), (90, .istore 6, 2), (92, .iload_n 2, 1), (93, .aload_n 0, 1), (94, .getfield 39, 3), (97, .iload 5, 2), (99, .laload, 1), (100, .invokestatic 320, 3), (103, .iconst (-1), 1), (104, .ixor, 1), (105, .iand, 1), (106, .ifCond .ne 19, 3), (109, .iload 4, 2), (111, .ifCond .lt 10, 3), (114, .iload 6, 2), (116, .iload 4, 2), (118, .if_icmp .ge 7, 3), (121, .iload 6, 2), (123, .istore 4, 2), (125, .iinc 5 1, 3), (128, .goto (-67), 3), (131, .iload 4, 2), (133, .ireturn, 1)]
theorem dc269 : dcs (mC 269) il269 := dc_of (by decide +kernel)
def mo_spared_L61  (v2 v3 : Int) (K1 : Int → MM → OR) : Nat → Int → Int → MM → OR
  | 0, _, _, _ => none
  | n + 1, v4, v5, M => (bif cmpB .ge v5 (M 165 25) then (K1 v4 M) else (bif inB v5 6000 then (bI (mo_thingsIn (M 173 (v5).toNat) 3 M) fun z_20 M_19 => (bI (mo_worthOf (iAnd z_20 (iXor v3 (-1))) M_19) fun z_23 M_22 => (bif inB v5 6000 then (bI (mo_freedIn (M_22 173 (v5).toNat) M_22) fun z_26 M_25 => (bif cmpB .ne (iAnd v2 (iXor z_26 (-1))) 0 then (mo_spared_L61 v2 v3 K1 n v4 (v5 + 1) M_25) else (bif cmpB .lt v4 0 then (mo_spared_L61 v2 v3 K1 n z_23 (v5 + 1) M_25) else (bif cmpB .ge z_23 v4 then (mo_spared_L61 v2 v3 K1 n v4 (v5 + 1) M_25) else (mo_spared_L61 v2 v3 K1 n z_23 (v5 + 1) M_25))))) else none))) else none))
set_option maxRecDepth 4000 in
theorem mo_spared_L61_ok {Z : Nat × (Nat → Int)} {d : Nat} (hd : 9 ≤ d)  {v2 v3 : Int} {K1 : Int → MM → OR} {res : AR × MM} (k1 : ∀ (x4 : Int) (M : MM) (j0 j1 j2 j3 j5 j6 : AV), K1 x4 M = some res → EX Z d 269 131 [j0, j1, j2, j3, vI x4, j5, j6] [] M res) : ∀ (n : Nat) (v4 v5 : Int) (M : MM) (j1 j6 : AV), mo_spared_L61 v2 v3 K1 n v4 v5 M = some res → EX Z d 269 61 [vR 165, j1, vI v2, vI v3, vI v4, vI v5, j6] [] M res := by
  obtain ⟨e9, rfl⟩ : ∃ e9, d = e9 + 1 := ⟨d - 1, by omega⟩
  intro n
  induction n with
  | zero =>
    intro v4 v5 M j1 j6 hf
    unfold mo_spared_L61 at hf
    cases hf
  | succ n ih =>
    intro v4 v5 M j1 j6 hf
    unfold mo_spared_L61 at hf
    refine ex_pu (ls' := [vR 165, j1, vI v2, vI v3, vI v4, vI v5, j6]) (st' := [vI v5]) (dg dc269 36 rfl) rfl rfl ?_
    refine ex_pu (ls' := [vR 165, j1, vI v2, vI v3, vI v4, vI v5, j6]) (st' := [vR 165, vI v5]) (dg dc269 37 rfl) rfl rfl ?_
    refine ex_getI (dg dc269 38 rfl) rfl (LOC.st (Nat.le_of_ble_eq_true rfl) rfl) rfl ?_
    refine ex_icmp (t := 131) (dg dc269 39 rfl) rfl hf (fun _ hf => ?_) (fun _ hf => ?_)
    · exact k1 v4 M _ _ _ _ _ _ hf
    · refine ex_pu (ls' := [vR 165, j1, vI v2, vI v3, vI v4, vI v5, j6]) (st' := [vR 165]) (dg dc269 40 rfl) rfl rfl ?_
      refine ex_pu (ls' := [vR 165, j1, vI v2, vI v3, vI v4, vI v5, j6]) (st' := [vR 165, vR 165]) (dg dc269 41 rfl) rfl rfl ?_
      refine ex_pu (ls' := [vR 165, j1, vI v2, vI v3, vI v4, vI v5, j6]) (st' := [vR 165, vR 165, vR 165]) (dg dc269 42 rfl) rfl rfl ?_
      refine ex_getO (dg dc269 43 rfl) rfl (LOC.st (Nat.le_of_ble_eq_true rfl) rfl) rfl ?_
      show EX Z _ 269 _ [vR 165, j1, vI v2, vI v3, vI v4, vI v5, j6] [vR 173, vR 165, vR 165] _ _
      refine ex_pu (ls' := [vR 165, j1, vI v2, vI v3, vI v4, vI v5, j6]) (st' := [vI v5, vR 173, vR 165, vR 165]) (dg dc269 44 rfl) rfl rfl ?_
      refine ex_lald (dg dc269 45 rfl) (LOC.st (Nat.le_of_ble_eq_true rfl) rfl) rfl hf (fun _ hf => ?_)
      refine ex_pu (ls' := [vR 165, j1, vI v2, vI v3, vI v4, vI v5, j6]) (st' := [vI 3, vJ (M 173 (v5).toNat), vR 165, vR 165]) (dg dc269 46 rfl) rfl rfl ?_
      refine ex_cI (vs := [vR 165, vJ (M 173 (v5).toNat), vI 3]) (st' := [vR 165]) (F := (mo_thingsIn (M 173 (v5).toNat) 3 M)) (Or.inr (Or.inl ⟨rfl, (dg dc269 47 rfl)⟩)) rfl rfl (rk1 (LOC.st (Nat.le_of_ble_eq_true rfl) rfl) rfl) rfl (fun _ r9 => mo_thingsIn_ok (Z := Z) (d := e9) (by omega)  r9) hf (fun z_20 M_19 he_18 hf => ?_)
      refine ex_pu (ls' := [vR 165, j1, vI v2, vI v3, vI v4, vI v5, j6]) (st' := [vI v3, vI z_20, vR 165]) (dg dc269 48 rfl) rfl rfl ?_
      refine ex_pu (ls' := [vR 165, j1, vI v2, vI v3, vI v4, vI v5, j6]) (st' := [vI (-1), vI v3, vI z_20, vR 165]) (dg dc269 49 rfl) rfl rfl ?_
      refine ex_pu (ls' := [vR 165, j1, vI v2, vI v3, vI v4, vI v5, j6]) (st' := [vI (iXor v3 (-1)), vI z_20, vR 165]) (dg dc269 50 rfl) rfl rfl ?_
      refine ex_pu (ls' := [vR 165, j1, vI v2, vI v3, vI v4, vI v5, j6]) (st' := [vI (iAnd z_20 (iXor v3 (-1))), vR 165]) (dg dc269 51 rfl) rfl rfl ?_
      refine ex_cI (vs := [vR 165, vI (iAnd z_20 (iXor v3 (-1)))]) (st' := []) (F := (mo_worthOf (iAnd z_20 (iXor v3 (-1))) M_19)) (Or.inr (Or.inl ⟨rfl, (dg dc269 52 rfl)⟩)) rfl rfl (rk1 (LOC.st (Nat.le_of_ble_eq_true rfl) rfl) rfl) rfl (fun _ r9 => mo_worthOf_ok (Z := Z) (d := e9) (by omega)  r9) hf (fun z_23 M_22 he_21 hf => ?_)
      refine ex_pu (ls' := [vR 165, j1, vI v2, vI v3, vI v4, vI v5, vI z_23]) (st' := []) (dg dc269 53 rfl) rfl rfl ?_
      refine ex_pu (ls' := [vR 165, j1, vI v2, vI v3, vI v4, vI v5, vI z_23]) (st' := [vI v2]) (dg dc269 54 rfl) rfl rfl ?_
      refine ex_pu (ls' := [vR 165, j1, vI v2, vI v3, vI v4, vI v5, vI z_23]) (st' := [vR 165, vI v2]) (dg dc269 55 rfl) rfl rfl ?_
      refine ex_getO (dg dc269 56 rfl) rfl (LOC.st (Nat.le_of_ble_eq_true rfl) rfl) rfl ?_
      show EX Z _ 269 _ [vR 165, j1, vI v2, vI v3, vI v4, vI v5, vI z_23] [vR 173, vI v2] _ _
      refine ex_pu (ls' := [vR 165, j1, vI v2, vI v3, vI v4, vI v5, vI z_23]) (st' := [vI v5, vR 173, vI v2]) (dg dc269 57 rfl) rfl rfl ?_
      refine ex_lald (dg dc269 58 rfl) (LOC.st (Nat.le_of_ble_eq_true rfl) rfl) rfl hf (fun _ hf => ?_)
      refine ex_cI (vs := [vJ (M_22 173 (v5).toNat)]) (st' := [vI v2]) (F := (mo_freedIn (M_22 173 (v5).toNat) M_22)) (Or.inl ⟨rfl, (dg dc269 59 rfl)⟩) rfl rfl (Or.inl rfl) rfl (fun _ r9 => mo_freedIn_ok (Z := Z) (d := e9) (by omega)  r9) hf (fun z_26 M_25 he_24 hf => ?_)
      refine ex_pu (ls' := [vR 165, j1, vI v2, vI v3, vI v4, vI v5, vI z_23]) (st' := [vI (-1), vI z_26, vI v2]) (dg dc269 60 rfl) rfl rfl ?_
      refine ex_pu (ls' := [vR 165, j1, vI v2, vI v3, vI v4, vI v5, vI z_23]) (st' := [vI (iXor z_26 (-1)), vI v2]) (dg dc269 61 rfl) rfl rfl ?_
      refine ex_pu (ls' := [vR 165, j1, vI v2, vI v3, vI v4, vI v5, vI z_23]) (st' := [vI (iAnd v2 (iXor z_26 (-1)))]) (dg dc269 62 rfl) rfl rfl ?_
      refine ex_if (t := 125) (dg dc269 63 rfl) rfl hf (fun _ hf => ?_) (fun _ hf => ?_)
      · refine ex_pu (ls' := [vR 165, j1, vI v2, vI v3, vI v4, vI (v5 + 1), vI z_23]) (st' := []) (dg dc269 71 rfl) rfl rfl ?_
        refine ex_goto (t := 61) (dg dc269 72 rfl) rfl rfl ?_
        exact ih v4 (v5 + 1) M_25 _ _ hf
      · refine ex_pu (ls' := [vR 165, j1, vI v2, vI v3, vI v4, vI v5, vI z_23]) (st' := [vI v4]) (dg dc269 64 rfl) rfl rfl ?_
        refine ex_if (t := 121) (dg dc269 65 rfl) rfl hf (fun _ hf => ?_) (fun _ hf => ?_)
        · refine ex_pu (ls' := [vR 165, j1, vI v2, vI v3, vI v4, vI v5, vI z_23]) (st' := [vI z_23]) (dg dc269 69 rfl) rfl rfl ?_
          refine ex_pu (ls' := [vR 165, j1, vI v2, vI v3, vI z_23, vI v5, vI z_23]) (st' := []) (dg dc269 70 rfl) rfl rfl ?_
          refine ex_pu (ls' := [vR 165, j1, vI v2, vI v3, vI z_23, vI (v5 + 1), vI z_23]) (st' := []) (dg dc269 71 rfl) rfl rfl ?_
          refine ex_goto (t := 61) (dg dc269 72 rfl) rfl rfl ?_
          exact ih z_23 (v5 + 1) M_25 _ _ hf
        · refine ex_pu (ls' := [vR 165, j1, vI v2, vI v3, vI v4, vI v5, vI z_23]) (st' := [vI z_23]) (dg dc269 66 rfl) rfl rfl ?_
          refine ex_pu (ls' := [vR 165, j1, vI v2, vI v3, vI v4, vI v5, vI z_23]) (st' := [vI v4, vI z_23]) (dg dc269 67 rfl) rfl rfl ?_
          refine ex_icmp (t := 125) (dg dc269 68 rfl) rfl hf (fun _ hf => ?_) (fun _ hf => ?_)
          · refine ex_pu (ls' := [vR 165, j1, vI v2, vI v3, vI v4, vI (v5 + 1), vI z_23]) (st' := []) (dg dc269 71 rfl) rfl rfl ?_
            refine ex_goto (t := 61) (dg dc269 72 rfl) rfl rfl ?_
            exact ih v4 (v5 + 1) M_25 _ _ hf
          · refine ex_pu (ls' := [vR 165, j1, vI v2, vI v3, vI v4, vI v5, vI z_23]) (st' := [vI z_23]) (dg dc269 69 rfl) rfl rfl ?_
            refine ex_pu (ls' := [vR 165, j1, vI v2, vI v3, vI z_23, vI v5, vI z_23]) (st' := []) (dg dc269 70 rfl) rfl rfl ?_
            refine ex_pu (ls' := [vR 165, j1, vI v2, vI v3, vI z_23, vI (v5 + 1), vI z_23]) (st' := []) (dg dc269 71 rfl) rfl rfl ?_
            refine ex_goto (t := 61) (dg dc269 72 rfl) rfl rfl ?_
            exact ih z_23 (v5 + 1) M_25 _ _ hf
def mo_spared_J18   (v1 s0 : Int) (M : MM) : OR :=
  (bI (mo_throwsIf s0 1 M) fun z_8 M_7 => (bif cmpB .eq z_8 0 then (bI (mo_searches  M_7) fun z_11 M_10 => (bif cmpB .ne z_11 0 then (bI (mo_allBrothers v1 M_10) fun z_14 M_13 => (bif inB 0 6000 then (bI (mo_thingsIn (M_13 173 0) 3 M_13) fun z_17 M_16 => (mo_spared_L61 z_14 z_17 (fun v4_27 M_28 => some (rI v4_27, M_28)) FU (-1) 0 M_16)) else none)) else some (rI (-3), M_10))) else some (rI 0, M_7)))
set_option maxRecDepth 4000 in
theorem mo_spared_J18_ok {Z : Nat × (Nat → Int)} {d : Nat} (hd : 9 ≤ d)   {res : AR × MM}  : ∀ (v1 s0 : Int) (M : MM) (j2 j3 j4 j5 j6 : AV), mo_spared_J18   v1 s0 M = some res → EX Z d 269 18 [vR 165, vI v1, j2, j3, j4, j5, j6] [vI s0, vR 165] M res := by
  obtain ⟨e9, rfl⟩ : ∃ e9, d = e9 + 1 := ⟨d - 1, by omega⟩
  intro v1 s0 M j2 j3 j4 j5 j6 hf
  unfold mo_spared_J18 at hf
  refine ex_pu (ls' := [vR 165, vI v1, j2, j3, j4, j5, j6]) (st' := [vI 1, vI s0, vR 165]) (dg dc269 10 rfl) rfl rfl ?_
  refine ex_cI (vs := [vR 165, vI s0, vI 1]) (st' := []) (F := (mo_throwsIf s0 1 M)) (Or.inr (Or.inl ⟨rfl, (dg dc269 11 rfl)⟩)) rfl rfl (rk1 (LOC.st (Nat.le_of_ble_eq_true rfl) rfl) rfl) rfl (fun _ r9 => mo_throwsIf_ok (Z := Z) (d := e9) (by omega)  r9) hf (fun z_8 M_7 he_6 hf => ?_)
  refine ex_if (t := 27) (dg dc269 12 rfl) rfl hf (fun _ hf => ?_) (fun _ hf => ?_)
  · refine ex_pu (ls' := [vR 165, vI v1, j2, j3, j4, j5, j6]) (st' := [vR 165]) (dg dc269 15 rfl) rfl rfl ?_
    refine ex_cI (vs := [vR 165]) (st' := []) (F := (mo_searches  M_7)) (Or.inr (Or.inl ⟨rfl, (dg dc269 16 rfl)⟩)) rfl rfl (rk1 (LOC.st (Nat.le_of_ble_eq_true rfl) rfl) rfl) rfl (fun _ r9 => mo_searches_ok (Z := Z) (d := e9) (by omega)  r9) hf (fun z_11 M_10 he_9 hf => ?_)
    refine ex_if (t := 37) (dg dc269 17 rfl) rfl hf (fun _ hf => ?_) (fun _ hf => ?_)
    · refine ex_pu (ls' := [vR 165, vI v1, j2, j3, j4, j5, j6]) (st' := [vR 165]) (dg dc269 20 rfl) rfl rfl ?_
      refine ex_pu (ls' := [vR 165, vI v1, j2, j3, j4, j5, j6]) (st' := [vI v1, vR 165]) (dg dc269 21 rfl) rfl rfl ?_
      refine ex_cI (vs := [vR 165, vI v1]) (st' := []) (F := (mo_allBrothers v1 M_10)) (Or.inr (Or.inl ⟨rfl, (dg dc269 22 rfl)⟩)) rfl rfl (rk1 (LOC.st (Nat.le_of_ble_eq_true rfl) rfl) rfl) rfl (fun _ r9 => mo_allBrothers_ok (Z := Z) (d := e9) (by omega)  r9) hf (fun z_14 M_13 he_12 hf => ?_)
      refine ex_pu (ls' := [vR 165, vI v1, vI z_14, j3, j4, j5, j6]) (st' := []) (dg dc269 23 rfl) rfl rfl ?_
      refine ex_pu (ls' := [vR 165, vI v1, vI z_14, j3, j4, j5, j6]) (st' := [vR 165]) (dg dc269 24 rfl) rfl rfl ?_
      refine ex_pu (ls' := [vR 165, vI v1, vI z_14, j3, j4, j5, j6]) (st' := [vR 165, vR 165]) (dg dc269 25 rfl) rfl rfl ?_
      refine ex_getO (dg dc269 26 rfl) rfl (LOC.st (Nat.le_of_ble_eq_true rfl) rfl) rfl ?_
      show EX Z _ 269 _ [vR 165, vI v1, vI z_14, j3, j4, j5, j6] [vR 173, vR 165] _ _
      refine ex_pu (ls' := [vR 165, vI v1, vI z_14, j3, j4, j5, j6]) (st' := [vI 0, vR 173, vR 165]) (dg dc269 27 rfl) rfl rfl ?_
      refine ex_lald (dg dc269 28 rfl) (LOC.st (Nat.le_of_ble_eq_true rfl) rfl) rfl hf (fun _ hf => ?_)
      refine ex_pu (ls' := [vR 165, vI v1, vI z_14, j3, j4, j5, j6]) (st' := [vI 3, vJ (M_13 173 0), vR 165]) (dg dc269 29 rfl) rfl rfl ?_
      refine ex_cI (vs := [vR 165, vJ (M_13 173 0), vI 3]) (st' := []) (F := (mo_thingsIn (M_13 173 0) 3 M_13)) (Or.inr (Or.inl ⟨rfl, (dg dc269 30 rfl)⟩)) rfl rfl (rk1 (LOC.st (Nat.le_of_ble_eq_true rfl) rfl) rfl) rfl (fun _ r9 => mo_thingsIn_ok (Z := Z) (d := e9) (by omega)  r9) hf (fun z_17 M_16 he_15 hf => ?_)
      refine ex_pu (ls' := [vR 165, vI v1, vI z_14, vI z_17, j4, j5, j6]) (st' := []) (dg dc269 31 rfl) rfl rfl ?_
      refine ex_pu (ls' := [vR 165, vI v1, vI z_14, vI z_17, j4, j5, j6]) (st' := [vI (-1)]) (dg dc269 32 rfl) rfl rfl ?_
      refine ex_pu (ls' := [vR 165, vI v1, vI z_14, vI z_17, vI (-1), j5, j6]) (st' := []) (dg dc269 33 rfl) rfl rfl ?_
      refine ex_pu (ls' := [vR 165, vI v1, vI z_14, vI z_17, vI (-1), j5, j6]) (st' := [vI 0]) (dg dc269 34 rfl) rfl rfl ?_
      refine ex_pu (ls' := [vR 165, vI v1, vI z_14, vI z_17, vI (-1), vI 0, j6]) (st' := []) (dg dc269 35 rfl) rfl rfl ?_
      refine mo_spared_L61_ok hd  ?_ FU (-1) 0 M_16 _ _ hf
      · intro v4_27 M_28 j0_29 j1_30 j2_31 j3_32 j5_33 j6_34 hf
        refine ex_pu (ls' := [j0_29, j1_30, j2_31, j3_32, vI v4_27, j5_33, j6_34]) (st' := [vI v4_27]) (dg dc269 73 rfl) rfl rfl ?_
        exact ex_ire (dg dc269 74 rfl) rfl hf
    · refine ex_pu (ls' := [vR 165, vI v1, j2, j3, j4, j5, j6]) (st' := [vI (-3)]) (dg dc269 18 rfl) rfl rfl ?_
      exact ex_ire (dg dc269 19 rfl) rfl hf
  · refine ex_pu (ls' := [vR 165, vI v1, j2, j3, j4, j5, j6]) (st' := [vI 0]) (dg dc269 13 rfl) rfl rfl ?_
    exact ex_ire (dg dc269 14 rfl) rfl hf
def mo_spared (v1 : Int) (M : MM) : OR :=
  (sM (mU M 165 0 0) fun M_1 => (bI (mo_places  M_1) fun z_5 M_4 => (bif cmpB .ne z_5 0 then (mo_spared_J18   v1 0 M_4) else (mo_spared_J18   v1 1 M_4))))
set_option maxRecDepth 4000 in
theorem mo_spared_ok {Z : Nat × (Nat → Int)} {d : Nat} (hd : 9 ≤ d) {M : MM}  {v1 : Int} {res : AR × MM} (hf : mo_spared v1 M = some res) : EX Z d 269 0 (ent 269 [vR 165, vI v1]) [] M res := by
  obtain ⟨e9, rfl⟩ : ∃ e9, d = e9 + 1 := ⟨d - 1, by omega⟩
  unfold mo_spared at hf
  show EX Z _ 269 0 [vR 165, vI v1, vU, vU, vU, vU, vU] [] M res
  refine ex_pu (ls' := [vR 165, vI v1, vU, vU, vU, vU, vU]) (st' := [vR 165]) (dg dc269 0 rfl) rfl rfl ?_
  refine ex_pu (ls' := [vR 165, vI v1, vU, vU, vU, vU, vU]) (st' := [vI 0, vR 165]) (dg dc269 1 rfl) rfl rfl ?_
  refine ex_putI (dg dc269 2 rfl) rfl (LOC.st (Nat.le_of_ble_eq_true rfl) rfl) rfl rfl rfl ?_
  refine ex_gen hf (fun M_1 hM_2 hf => ?_)
  refine ex_pu (ls' := [vR 165, vI v1, vU, vU, vU, vU, vU]) (st' := [vR 165]) (dg dc269 3 rfl) rfl rfl ?_
  refine ex_pu (ls' := [vR 165, vI v1, vU, vU, vU, vU, vU]) (st' := [vR 165, vR 165]) (dg dc269 4 rfl) rfl rfl ?_
  refine ex_cI (vs := [vR 165]) (st' := [vR 165]) (F := (mo_places  M_1)) (Or.inr (Or.inl ⟨rfl, (dg dc269 5 rfl)⟩)) rfl rfl (rk1 (LOC.st (Nat.le_of_ble_eq_true rfl) rfl) rfl) rfl (fun _ r9 => mo_places_ok (Z := Z) (d := e9) (by omega)  r9) hf (fun z_5 M_4 he_3 hf => ?_)
  refine ex_if (t := 17) (dg dc269 6 rfl) rfl hf (fun _ hf => ?_) (fun _ hf => ?_)
  · refine ex_pu (ls' := [vR 165, vI v1, vU, vU, vU, vU, vU]) (st' := [vI 0, vR 165]) (dg dc269 9 rfl) rfl rfl ?_
    exact mo_spared_J18_ok hd   v1 0 M_4 _ _ _ _ _ hf
  · refine ex_pu (ls' := [vR 165, vI v1, vU, vU, vU, vU, vU]) (st' := [vI 1, vR 165]) (dg dc269 7 rfl) rfl rfl ?_
    refine ex_goto (t := 18) (dg dc269 8 rfl) rfl rfl ?_
    exact mo_spared_J18_ok hd   v1 1 M_4 _ _ _ _ _ hf
-- GlassHillModel.locked
def il270 : List (Nat × Instr × Nat) := [(0, .aload_n 0, 1), (1, .iconst 0, 1), (2, .putfield 3, 3), (5, .aload_n 0, 1), (6, .aload_n 0, 1), (7, .invokevirtual 76, 3), (10, .ifCond .ne 7, 3), (13, .iconst 1, 1), (14, .goto 4, 3), (17, .iconst 0, 1), (18, .iconst 1, 1), (19, .invokevirtual 274, 3), (22, .ifCond .eq 5, 3), (25, .iconst 0, 1), (26, .ireturn, 1), (27, .aload_n 0, 1), (28, .invokevirtual 450, 3), (31, .ifCond .ne 6, 3), (34, .bipush (-3), 2), (36, .ireturn, 1), (37, .iload_n 1, 1), (38, .ifCond .eq 8, 3), (41, .aload_n 0, 1), (42, .getfield 437, 3), (45, .ireturn, 1), (46, .iconst 0, 1), (47, .istore_n 2, 1), (48, .iconst 0, 1), (49, .istore_n 3, 1), (50, .iload_n 3, 1), (51, .aload_n 0, 1), (52, .invokevirtual 76, 3), (55, .if_icmp .ge 27, 3), (58, .iload_n 2, 1), (59, .aload_n 0, 1), (60, .iload_n 3, 1), (61, .invokevirtual 159, 3), (64, .ifCond .eq 9, 3), (67, .iconst 1, 1), (68, .iload_n 3, 1), (69, .ishl, 1), (70, .goto 4, 3), (73, .iconst 0, 1), (74, .ior, 1), (75, .istore_n 2, 1), (76, .iinc 3 1, 3), (79, .goto (-29), 3), (82, .iconst 0, 1), (83, .istore_n 3, 1), (84, .iload_n 3, 1), (85, .aload_n 0, 1), (86, .getfield 437, 3), (89, .if_icmp .ge 23, 3), (92, .iload_n 2, 1), (93, .aload_n 0, 1), (94, .getfield 39, 3), (97, .iload_n 3, 1), (98, .laload, 1), (99, .invokestatic 317, 3), (102, .iconst (-1), 1), (103, .ixor, 1), (104, .iand, 1), (105, .istore_n 2, 1), (106, .iinc 3 1, 3), (109, .goto (-25), 3), (112, .iload_n 2, 1), (113, .ireturn, 1)]
theorem dc270 : dcs (mC 270) il270 := dc_of (by decide +kernel)
def mo_locked_L50  (K1 : Int → MM → OR) : Nat → Int → Int → MM → OR
  | 0, _, _, _ => none
  | n + 1, v2, v3, M => (bI (mo_places  M) fun z_14 M_13 => (bif cmpB .ge v3 z_14 then (K1 v2 M_13) else (bI (mo_isKeeper v3 M_13) fun z_17 M_16 => (bif cmpB .eq z_17 0 then (mo_locked_L50  K1 n (iOr v2 0) (v3 + 1) M_16) else (mo_locked_L50  K1 n (iOr v2 (iShl 1 v3)) (v3 + 1) M_16)))))
set_option maxRecDepth 4000 in
theorem mo_locked_L50_ok {Z : Nat × (Nat → Int)} {d : Nat} (hd : 9 ≤ d)  {K1 : Int → MM → OR} {res : AR × MM} (k1 : ∀ (x2 : Int) (M : MM) (j1 j3 : AV), K1 x2 M = some res → EX Z d 270 82 [vR 165, j1, vI x2, j3] [] M res) : ∀ (n : Nat) (v2 v3 : Int) (M : MM) (j1 : AV), mo_locked_L50  K1 n v2 v3 M = some res → EX Z d 270 50 [vR 165, j1, vI v2, vI v3] [] M res := by
  obtain ⟨e9, rfl⟩ : ∃ e9, d = e9 + 1 := ⟨d - 1, by omega⟩
  intro n
  induction n with
  | zero =>
    intro v2 v3 M j1 hf
    unfold mo_locked_L50 at hf
    cases hf
  | succ n ih =>
    intro v2 v3 M j1 hf
    unfold mo_locked_L50 at hf
    refine ex_pu (ls' := [vR 165, j1, vI v2, vI v3]) (st' := [vI v3]) (dg dc270 29 rfl) rfl rfl ?_
    refine ex_pu (ls' := [vR 165, j1, vI v2, vI v3]) (st' := [vR 165, vI v3]) (dg dc270 30 rfl) rfl rfl ?_
    refine ex_cI (vs := [vR 165]) (st' := [vI v3]) (F := (mo_places  M)) (Or.inr (Or.inl ⟨rfl, (dg dc270 31 rfl)⟩)) rfl rfl (rk1 (LOC.st (Nat.le_of_ble_eq_true rfl) rfl) rfl) rfl (fun _ r9 => mo_places_ok (Z := Z) (d := e9) (by omega)  r9) hf (fun z_14 M_13 he_12 hf => ?_)
    refine ex_icmp (t := 82) (dg dc270 32 rfl) rfl hf (fun _ hf => ?_) (fun _ hf => ?_)
    · exact k1 v2 M_13 _ _ hf
    · refine ex_pu (ls' := [vR 165, j1, vI v2, vI v3]) (st' := [vI v2]) (dg dc270 33 rfl) rfl rfl ?_
      refine ex_pu (ls' := [vR 165, j1, vI v2, vI v3]) (st' := [vR 165, vI v2]) (dg dc270 34 rfl) rfl rfl ?_
      refine ex_pu (ls' := [vR 165, j1, vI v2, vI v3]) (st' := [vI v3, vR 165, vI v2]) (dg dc270 35 rfl) rfl rfl ?_
      refine ex_cI (vs := [vR 165, vI v3]) (st' := [vI v2]) (F := (mo_isKeeper v3 M_13)) (Or.inr (Or.inl ⟨rfl, (dg dc270 36 rfl)⟩)) rfl rfl (rk1 (LOC.st (Nat.le_of_ble_eq_true rfl) rfl) rfl) rfl (fun _ r9 => mo_isKeeper_ok (Z := Z) (d := e9) (by omega)  r9) hf (fun z_17 M_16 he_15 hf => ?_)
      refine ex_if (t := 73) (dg dc270 37 rfl) rfl hf (fun _ hf => ?_) (fun _ hf => ?_)
      · refine ex_pu (ls' := [vR 165, j1, vI v2, vI v3]) (st' := [vI 0, vI v2]) (dg dc270 42 rfl) rfl rfl ?_
        refine ex_pu (ls' := [vR 165, j1, vI v2, vI v3]) (st' := [vI (iOr v2 0)]) (dg dc270 43 rfl) rfl rfl ?_
        refine ex_istDn (dg dc270 44 rfl) rfl rfl (fun w_18 => ?_)
        show EX Z _ 270 _ [vR 165, w_18, vI (iOr v2 0), vI v3] [] _ _
        refine ex_pu (ls' := [vR 165, w_18, vI (iOr v2 0), vI (v3 + 1)]) (st' := []) (dg dc270 45 rfl) rfl rfl ?_
        refine ex_goto (t := 50) (dg dc270 46 rfl) rfl rfl ?_
        exact ih (iOr v2 0) (v3 + 1) M_16 _ hf
      · refine ex_pu (ls' := [vR 165, j1, vI v2, vI v3]) (st' := [vI 1, vI v2]) (dg dc270 38 rfl) rfl rfl ?_
        refine ex_pu (ls' := [vR 165, j1, vI v2, vI v3]) (st' := [vI v3, vI 1, vI v2]) (dg dc270 39 rfl) rfl rfl ?_
        refine ex_pu (ls' := [vR 165, j1, vI v2, vI v3]) (st' := [vI (iShl 1 v3), vI v2]) (dg dc270 40 rfl) rfl rfl ?_
        refine ex_goto (t := 74) (dg dc270 41 rfl) rfl rfl ?_
        refine ex_pu (ls' := [vR 165, j1, vI v2, vI v3]) (st' := [vI (iOr v2 (iShl 1 v3))]) (dg dc270 43 rfl) rfl rfl ?_
        refine ex_istDn (dg dc270 44 rfl) rfl rfl (fun w_19 => ?_)
        show EX Z _ 270 _ [vR 165, w_19, vI (iOr v2 (iShl 1 v3)), vI v3] [] _ _
        refine ex_pu (ls' := [vR 165, w_19, vI (iOr v2 (iShl 1 v3)), vI (v3 + 1)]) (st' := []) (dg dc270 45 rfl) rfl rfl ?_
        refine ex_goto (t := 50) (dg dc270 46 rfl) rfl rfl ?_
        exact ih (iOr v2 (iShl 1 v3)) (v3 + 1) M_16 _ hf
def mo_locked_L84  (K1 : Int → MM → OR) : Nat → Int → Int → MM → OR
  | 0, _, _, _ => none
  | n + 1, v2, v3, M => (bif cmpB .ge v3 (M 165 25) then (K1 v2 M) else (bif inB v3 6000 then (bI (mo_passedIn (M 173 (v3).toNat) M) fun z_26 M_25 => (mo_locked_L84  K1 n (iAnd v2 (iXor z_26 (-1))) (v3 + 1) M_25)) else none))
set_option maxRecDepth 4000 in
theorem mo_locked_L84_ok {Z : Nat × (Nat → Int)} {d : Nat} (hd : 9 ≤ d)  {K1 : Int → MM → OR} {res : AR × MM} (k1 : ∀ (x2 : Int) (M : MM) (j0 j1 j3 : AV), K1 x2 M = some res → EX Z d 270 112 [j0, j1, vI x2, j3] [] M res) : ∀ (n : Nat) (v2 v3 : Int) (M : MM) (j1 : AV), mo_locked_L84  K1 n v2 v3 M = some res → EX Z d 270 84 [vR 165, j1, vI v2, vI v3] [] M res := by
  obtain ⟨e9, rfl⟩ : ∃ e9, d = e9 + 1 := ⟨d - 1, by omega⟩
  intro n
  induction n with
  | zero =>
    intro v2 v3 M j1 hf
    unfold mo_locked_L84 at hf
    cases hf
  | succ n ih =>
    intro v2 v3 M j1 hf
    unfold mo_locked_L84 at hf
    refine ex_pu (ls' := [vR 165, j1, vI v2, vI v3]) (st' := [vI v3]) (dg dc270 49 rfl) rfl rfl ?_
    refine ex_pu (ls' := [vR 165, j1, vI v2, vI v3]) (st' := [vR 165, vI v3]) (dg dc270 50 rfl) rfl rfl ?_
    refine ex_getI (dg dc270 51 rfl) rfl (LOC.st (Nat.le_of_ble_eq_true rfl) rfl) rfl ?_
    refine ex_icmp (t := 112) (dg dc270 52 rfl) rfl hf (fun _ hf => ?_) (fun _ hf => ?_)
    · exact k1 v2 M _ _ _ hf
    · refine ex_pu (ls' := [vR 165, j1, vI v2, vI v3]) (st' := [vI v2]) (dg dc270 53 rfl) rfl rfl ?_
      refine ex_pu (ls' := [vR 165, j1, vI v2, vI v3]) (st' := [vR 165, vI v2]) (dg dc270 54 rfl) rfl rfl ?_
      refine ex_getO (dg dc270 55 rfl) rfl (LOC.st (Nat.le_of_ble_eq_true rfl) rfl) rfl ?_
      show EX Z _ 270 _ [vR 165, j1, vI v2, vI v3] [vR 173, vI v2] _ _
      refine ex_pu (ls' := [vR 165, j1, vI v2, vI v3]) (st' := [vI v3, vR 173, vI v2]) (dg dc270 56 rfl) rfl rfl ?_
      refine ex_lald (dg dc270 57 rfl) (LOC.st (Nat.le_of_ble_eq_true rfl) rfl) rfl hf (fun _ hf => ?_)
      refine ex_cI (vs := [vJ (M 173 (v3).toNat)]) (st' := [vI v2]) (F := (mo_passedIn (M 173 (v3).toNat) M)) (Or.inl ⟨rfl, (dg dc270 58 rfl)⟩) rfl rfl (Or.inl rfl) rfl (fun _ r9 => mo_passedIn_ok (Z := Z) (d := e9) (by omega)  r9) hf (fun z_26 M_25 he_24 hf => ?_)
      refine ex_pu (ls' := [vR 165, j1, vI v2, vI v3]) (st' := [vI (-1), vI z_26, vI v2]) (dg dc270 59 rfl) rfl rfl ?_
      refine ex_pu (ls' := [vR 165, j1, vI v2, vI v3]) (st' := [vI (iXor z_26 (-1)), vI v2]) (dg dc270 60 rfl) rfl rfl ?_
      refine ex_pu (ls' := [vR 165, j1, vI v2, vI v3]) (st' := [vI (iAnd v2 (iXor z_26 (-1)))]) (dg dc270 61 rfl) rfl rfl ?_
      refine ex_istDn (dg dc270 62 rfl) rfl rfl (fun w_27 => ?_)
      show EX Z _ 270 _ [vR 165, w_27, vI (iAnd v2 (iXor z_26 (-1))), vI v3] [] _ _
      refine ex_pu (ls' := [vR 165, w_27, vI (iAnd v2 (iXor z_26 (-1))), vI (v3 + 1)]) (st' := []) (dg dc270 63 rfl) rfl rfl ?_
      refine ex_goto (t := 84) (dg dc270 64 rfl) rfl rfl ?_
      exact ih (iAnd v2 (iXor z_26 (-1))) (v3 + 1) M_25 _ hf
def mo_locked_J18   (v1 s0 : Int) (M : MM) : OR :=
  (bI (mo_throwsIf s0 1 M) fun z_8 M_7 => (bif cmpB .eq z_8 0 then (bI (mo_searches  M_7) fun z_11 M_10 => (bif cmpB .ne z_11 0 then (bif cmpB .eq v1 0 then (mo_locked_L50  (fun v2_20 M_21 => (mo_locked_L84  (fun v2_28 M_29 => some (rI v2_28, M_29)) FU v2_20 0 M_21)) FU 0 0 M_10) else some (rI (M_10 165 25), M_10)) else some (rI (-3), M_10))) else some (rI 0, M_7)))
set_option maxRecDepth 4000 in
theorem mo_locked_J18_ok {Z : Nat × (Nat → Int)} {d : Nat} (hd : 9 ≤ d)   {res : AR × MM}  : ∀ (v1 s0 : Int) (M : MM) (j2 j3 : AV), mo_locked_J18   v1 s0 M = some res → EX Z d 270 18 [vR 165, vI v1, j2, j3] [vI s0, vR 165] M res := by
  obtain ⟨e9, rfl⟩ : ∃ e9, d = e9 + 1 := ⟨d - 1, by omega⟩
  intro v1 s0 M j2 j3 hf
  unfold mo_locked_J18 at hf
  refine ex_pu (ls' := [vR 165, vI v1, j2, j3]) (st' := [vI 1, vI s0, vR 165]) (dg dc270 10 rfl) rfl rfl ?_
  refine ex_cI (vs := [vR 165, vI s0, vI 1]) (st' := []) (F := (mo_throwsIf s0 1 M)) (Or.inr (Or.inl ⟨rfl, (dg dc270 11 rfl)⟩)) rfl rfl (rk1 (LOC.st (Nat.le_of_ble_eq_true rfl) rfl) rfl) rfl (fun _ r9 => mo_throwsIf_ok (Z := Z) (d := e9) (by omega)  r9) hf (fun z_8 M_7 he_6 hf => ?_)
  refine ex_if (t := 27) (dg dc270 12 rfl) rfl hf (fun _ hf => ?_) (fun _ hf => ?_)
  · refine ex_pu (ls' := [vR 165, vI v1, j2, j3]) (st' := [vR 165]) (dg dc270 15 rfl) rfl rfl ?_
    refine ex_cI (vs := [vR 165]) (st' := []) (F := (mo_searches  M_7)) (Or.inr (Or.inl ⟨rfl, (dg dc270 16 rfl)⟩)) rfl rfl (rk1 (LOC.st (Nat.le_of_ble_eq_true rfl) rfl) rfl) rfl (fun _ r9 => mo_searches_ok (Z := Z) (d := e9) (by omega)  r9) hf (fun z_11 M_10 he_9 hf => ?_)
    refine ex_if (t := 37) (dg dc270 17 rfl) rfl hf (fun _ hf => ?_) (fun _ hf => ?_)
    · refine ex_pu (ls' := [vR 165, vI v1, j2, j3]) (st' := [vI v1]) (dg dc270 20 rfl) rfl rfl ?_
      refine ex_if (t := 46) (dg dc270 21 rfl) rfl hf (fun _ hf => ?_) (fun _ hf => ?_)
      · refine ex_pu (ls' := [vR 165, vI v1, j2, j3]) (st' := [vI 0]) (dg dc270 25 rfl) rfl rfl ?_
        refine ex_pu (ls' := [vR 165, vI v1, vI 0, j3]) (st' := []) (dg dc270 26 rfl) rfl rfl ?_
        refine ex_pu (ls' := [vR 165, vI v1, vI 0, j3]) (st' := [vI 0]) (dg dc270 27 rfl) rfl rfl ?_
        refine ex_pu (ls' := [vR 165, vI v1, vI 0, vI 0]) (st' := []) (dg dc270 28 rfl) rfl rfl ?_
        refine mo_locked_L50_ok hd  ?_ FU 0 0 M_10 _ hf
        · intro v2_20 M_21 j1_22 j3_23 hf
          refine ex_pu (ls' := [vR 165, j1_22, vI v2_20, j3_23]) (st' := [vI 0]) (dg dc270 47 rfl) rfl rfl ?_
          refine ex_pu (ls' := [vR 165, j1_22, vI v2_20, vI 0]) (st' := []) (dg dc270 48 rfl) rfl rfl ?_
          refine mo_locked_L84_ok hd  ?_ FU v2_20 0 M_21 _ hf
          · intro v2_28 M_29 j0_30 j1_31 j3_32 hf
            refine ex_pu (ls' := [j0_30, j1_31, vI v2_28, j3_32]) (st' := [vI v2_28]) (dg dc270 65 rfl) rfl rfl ?_
            exact ex_ire (dg dc270 66 rfl) rfl hf
      · refine ex_pu (ls' := [vR 165, vI v1, j2, j3]) (st' := [vR 165]) (dg dc270 22 rfl) rfl rfl ?_
        refine ex_getI (dg dc270 23 rfl) rfl (LOC.st (Nat.le_of_ble_eq_true rfl) rfl) rfl ?_
        exact ex_ire (dg dc270 24 rfl) rfl hf
    · refine ex_pu (ls' := [vR 165, vI v1, j2, j3]) (st' := [vI (-3)]) (dg dc270 18 rfl) rfl rfl ?_
      exact ex_ire (dg dc270 19 rfl) rfl hf
  · refine ex_pu (ls' := [vR 165, vI v1, j2, j3]) (st' := [vI 0]) (dg dc270 13 rfl) rfl rfl ?_
    exact ex_ire (dg dc270 14 rfl) rfl hf
def mo_locked (v1 : Int) (M : MM) : OR :=
  (sM (mU M 165 0 0) fun M_1 => (bI (mo_places  M_1) fun z_5 M_4 => (bif cmpB .ne z_5 0 then (mo_locked_J18   v1 0 M_4) else (mo_locked_J18   v1 1 M_4))))
set_option maxRecDepth 4000 in
theorem mo_locked_ok {Z : Nat × (Nat → Int)} {d : Nat} (hd : 9 ≤ d) {M : MM}  {v1 : Int} {res : AR × MM} (hf : mo_locked v1 M = some res) : EX Z d 270 0 (ent 270 [vR 165, vI v1]) [] M res := by
  obtain ⟨e9, rfl⟩ : ∃ e9, d = e9 + 1 := ⟨d - 1, by omega⟩
  unfold mo_locked at hf
  show EX Z _ 270 0 [vR 165, vI v1, vU, vU] [] M res
  refine ex_pu (ls' := [vR 165, vI v1, vU, vU]) (st' := [vR 165]) (dg dc270 0 rfl) rfl rfl ?_
  refine ex_pu (ls' := [vR 165, vI v1, vU, vU]) (st' := [vI 0, vR 165]) (dg dc270 1 rfl) rfl rfl ?_
  refine ex_putI (dg dc270 2 rfl) rfl (LOC.st (Nat.le_of_ble_eq_true rfl) rfl) rfl rfl rfl ?_
  refine ex_gen hf (fun M_1 hM_2 hf => ?_)
  refine ex_pu (ls' := [vR 165, vI v1, vU, vU]) (st' := [vR 165]) (dg dc270 3 rfl) rfl rfl ?_
  refine ex_pu (ls' := [vR 165, vI v1, vU, vU]) (st' := [vR 165, vR 165]) (dg dc270 4 rfl) rfl rfl ?_
  refine ex_cI (vs := [vR 165]) (st' := [vR 165]) (F := (mo_places  M_1)) (Or.inr (Or.inl ⟨rfl, (dg dc270 5 rfl)⟩)) rfl rfl (rk1 (LOC.st (Nat.le_of_ble_eq_true rfl) rfl) rfl) rfl (fun _ r9 => mo_places_ok (Z := Z) (d := e9) (by omega)  r9) hf (fun z_5 M_4 he_3 hf => ?_)
  refine ex_if (t := 17) (dg dc270 6 rfl) rfl hf (fun _ hf => ?_) (fun _ hf => ?_)
  · refine ex_pu (ls' := [vR 165, vI v1, vU, vU]) (st' := [vI 0, vR 165]) (dg dc270 9 rfl) rfl rfl ?_
    exact mo_locked_J18_ok hd   v1 0 M_4 _ _ hf
  · refine ex_pu (ls' := [vR 165, vI v1, vU, vU]) (st' := [vI 1, vR 165]) (dg dc270 7 rfl) rfl rfl ?_
    refine ex_goto (t := 18) (dg dc270 8 rfl) rfl rfl ?_
    exact mo_locked_J18_ok hd   v1 1 M_4 _ _ hf
-- GlassHillModel.locks
def il288 : List (Nat × Instr × Nat) := [(0, .aload_n 0, 1), (1, .bipush 15, 2), (3, .iconst 1, 1), (4, .invokevirtual 484, 3), (7, .istore_n 2, 1), (8, .aload_n 0, 1), (9, .iload_n 2, 1), (10, .ifCond .ne 7, 3), (13, .iconst 1, 1), (14, .goto 4, 3), (17, .iconst 0, 1), (18, .iconst 1, 1), (19, .invokevirtual 274, 3), (22, .ifCond .eq 5, 3), (25, .iconst 0, 1), (26, .ireturn, 1), (27, .iconst 0, 1), (28, .istore_n 3, 1), (29, .iconst (-1), 1), (30, .istore 4, 2), (32, .iconst 0, 1), (33, .istore 5, 2), (35, .iload 5, 2), (37, .bipush 16, 2), (39, .if_icmp .ge 87, 3), (42, .iconst 0, 1), (43, .istore 6, 2), (45, .iload 6, 2), (47, .bipush 16, 2), (49, .if_icmp .ge 71, 3), (52, .iload 6, 2), (54, .iload 5, 2), (56, .iconst (-1), 1), (57, .ixor, 1), (58, .iand, 1), (59, .ifCond .ne 55, 3), (62, .aload_n 0, 1), (63, .iload 5, 2), (65, .iload 6, 2), (67, .invokevirtual 490, 3), (70, .ifCond .ne 6, 3), (73, .goto 41, 3), (76, .iinc 3 1, 3), (79, .iload 4, 2), (81, .ifCond .lt 18, 3), (84, .iload 5, 2), (86, .invokestatic 361, 3), (89, .iload 4, 2), (91, .iconst 4, 1), (92, .ishr, 1), (93, .invokestatic 361, 3), (96, .if_icmp .ge 14, 3), (99, .bipush 16, 2), (101, .iload 5, 2), (103, .imul, 1), (104, .iload 6, 2), (106, .iadd, 1), (107, .goto 5, 3), (110, .iload 4, 2), (112, .istore 4, 2), (114, .iinc 6 1, 3), (117, .goto (-72), 3), (120, .iinc 5 1, 3), (123, .goto (-88), 3), (126, .iload_n 1, 1), (127, .ifCond .eq 8, 3), (130, .iload 4, 2), (132, .goto 4, 3), (135, .iload_n 3, 1), (136, .ireturn, 1)]
theorem dc288 : dcs (mC 288) il288 := dc_of (by decide +kernel)
def mo_locks_L45  (v1 v5 : Int) (K1 : Int → Int → MM → OR) : Nat → Int → Int → Int → MM → OR
  | 0, _, _, _, _ => none
  | n + 1, v3, v4, v6, M => (bif cmpB .ge v6 16 then (K1 v3 v4 M) else (bif cmpB .ne (iAnd v6 (iXor v5 (-1))) 0 then (mo_locks_L45 v1 v5 K1 n v3 v4 (v6 + 1) M) else (bI (mo_tellsAll v5 v6 M) fun z_10 M_9 => (bif cmpB .ne z_10 0 then (bif cmpB .lt v4 0 then (mo_locks_L45 v1 v5 K1 n (v3 + 1) ((16 * v5) + v6) (v6 + 1) M_9) else (bI (jdk_bitCount v5 M_9) fun z_14 M_13 => (bI (jdk_bitCount (iShr v4 4) M_13) fun z_17 M_16 => (bif cmpB .ge z_14 z_17 then (mo_locks_L45 v1 v5 K1 n (v3 + 1) v4 (v6 + 1) M_16) else (mo_locks_L45 v1 v5 K1 n (v3 + 1) ((16 * v5) + v6) (v6 + 1) M_16))))) else (mo_locks_L45 v1 v5 K1 n v3 v4 (v6 + 1) M_9)))))
set_option maxRecDepth 4000 in
theorem mo_locks_L45_ok {Z : Nat × (Nat → Int)} {d : Nat} (hd : 2 ≤ d)  {v1 v5 : Int} {K1 : Int → Int → MM → OR} {res : AR × MM} (k1 : ∀ (x3 x4 : Int) (M : MM) (j2 j6 : AV), K1 x3 x4 M = some res → EX Z d 288 120 [vR 165, vI v1, j2, vI x3, vI x4, vI v5, j6] [] M res) : ∀ (n : Nat) (v3 v4 v6 : Int) (M : MM) (j2 : AV), mo_locks_L45 v1 v5 K1 n v3 v4 v6 M = some res → EX Z d 288 45 [vR 165, vI v1, j2, vI v3, vI v4, vI v5, vI v6] [] M res := by
  obtain ⟨e9, rfl⟩ : ∃ e9, d = e9 + 1 := ⟨d - 1, by omega⟩
  intro n
  induction n with
  | zero =>
    intro v3 v4 v6 M j2 hf
    unfold mo_locks_L45 at hf
    cases hf
  | succ n ih =>
    intro v3 v4 v6 M j2 hf
    unfold mo_locks_L45 at hf
    refine ex_pu (ls' := [vR 165, vI v1, j2, vI v3, vI v4, vI v5, vI v6]) (st' := [vI v6]) (dg dc288 27 rfl) rfl rfl ?_
    refine ex_pu (ls' := [vR 165, vI v1, j2, vI v3, vI v4, vI v5, vI v6]) (st' := [vI 16, vI v6]) (dg dc288 28 rfl) rfl rfl ?_
    refine ex_icmp (t := 120) (dg dc288 29 rfl) rfl hf (fun _ hf => ?_) (fun _ hf => ?_)
    · exact k1 v3 v4 M _ _ hf
    · refine ex_pu (ls' := [vR 165, vI v1, j2, vI v3, vI v4, vI v5, vI v6]) (st' := [vI v6]) (dg dc288 30 rfl) rfl rfl ?_
      refine ex_pu (ls' := [vR 165, vI v1, j2, vI v3, vI v4, vI v5, vI v6]) (st' := [vI v5, vI v6]) (dg dc288 31 rfl) rfl rfl ?_
      refine ex_pu (ls' := [vR 165, vI v1, j2, vI v3, vI v4, vI v5, vI v6]) (st' := [vI (-1), vI v5, vI v6]) (dg dc288 32 rfl) rfl rfl ?_
      refine ex_pu (ls' := [vR 165, vI v1, j2, vI v3, vI v4, vI v5, vI v6]) (st' := [vI (iXor v5 (-1)), vI v6]) (dg dc288 33 rfl) rfl rfl ?_
      refine ex_pu (ls' := [vR 165, vI v1, j2, vI v3, vI v4, vI v5, vI v6]) (st' := [vI (iAnd v6 (iXor v5 (-1)))]) (dg dc288 34 rfl) rfl rfl ?_
      refine ex_if (t := 114) (dg dc288 35 rfl) rfl hf (fun _ hf => ?_) (fun _ hf => ?_)
      · refine ex_pu (ls' := [vR 165, vI v1, j2, vI v3, vI v4, vI v5, vI (v6 + 1)]) (st' := []) (dg dc288 60 rfl) rfl rfl ?_
        refine ex_goto (t := 45) (dg dc288 61 rfl) rfl rfl ?_
        exact ih v3 v4 (v6 + 1) M _ hf
      · refine ex_pu (ls' := [vR 165, vI v1, j2, vI v3, vI v4, vI v5, vI v6]) (st' := [vR 165]) (dg dc288 36 rfl) rfl rfl ?_
        refine ex_pu (ls' := [vR 165, vI v1, j2, vI v3, vI v4, vI v5, vI v6]) (st' := [vI v5, vR 165]) (dg dc288 37 rfl) rfl rfl ?_
        refine ex_pu (ls' := [vR 165, vI v1, j2, vI v3, vI v4, vI v5, vI v6]) (st' := [vI v6, vI v5, vR 165]) (dg dc288 38 rfl) rfl rfl ?_
        refine ex_cI (vs := [vR 165, vI v5, vI v6]) (st' := []) (F := (mo_tellsAll v5 v6 M)) (Or.inr (Or.inl ⟨rfl, (dg dc288 39 rfl)⟩)) rfl rfl (rk1 (LOC.st (Nat.le_of_ble_eq_true rfl) rfl) rfl) rfl (fun _ r9 => mo_tellsAll_ok (Z := Z) (d := e9) (by omega)  r9) hf (fun z_10 M_9 he_8 hf => ?_)
        refine ex_if (t := 76) (dg dc288 40 rfl) rfl hf (fun _ hf => ?_) (fun _ hf => ?_)
        · refine ex_incD (dg dc288 42 rfl) rfl rfl (fun w_11 => ?_)
          show EX Z _ 288 _ [vR 165, vI v1, w_11, vI (v3 + 1), vI v4, vI v5, vI v6] [] _ _
          refine ex_pu (ls' := [vR 165, vI v1, w_11, vI (v3 + 1), vI v4, vI v5, vI v6]) (st' := [vI v4]) (dg dc288 43 rfl) rfl rfl ?_
          refine ex_if (t := 99) (dg dc288 44 rfl) rfl hf (fun _ hf => ?_) (fun _ hf => ?_)
          · refine ex_pu (ls' := [vR 165, vI v1, w_11, vI (v3 + 1), vI v4, vI v5, vI v6]) (st' := [vI 16]) (dg dc288 52 rfl) rfl rfl ?_
            refine ex_pu (ls' := [vR 165, vI v1, w_11, vI (v3 + 1), vI v4, vI v5, vI v6]) (st' := [vI v5, vI 16]) (dg dc288 53 rfl) rfl rfl ?_
            refine ex_pu (ls' := [vR 165, vI v1, w_11, vI (v3 + 1), vI v4, vI v5, vI v6]) (st' := [vI (16 * v5)]) (dg dc288 54 rfl) rfl rfl ?_
            refine ex_pu (ls' := [vR 165, vI v1, w_11, vI (v3 + 1), vI v4, vI v5, vI v6]) (st' := [vI v6, vI (16 * v5)]) (dg dc288 55 rfl) rfl rfl ?_
            refine ex_pu (ls' := [vR 165, vI v1, w_11, vI (v3 + 1), vI v4, vI v5, vI v6]) (st' := [vI ((16 * v5) + v6)]) (dg dc288 56 rfl) rfl rfl ?_
            refine ex_goto (t := 112) (dg dc288 57 rfl) rfl rfl ?_
            refine ex_pu (ls' := [vR 165, vI v1, w_11, vI (v3 + 1), vI ((16 * v5) + v6), vI v5, vI v6]) (st' := []) (dg dc288 59 rfl) rfl rfl ?_
            refine ex_pu (ls' := [vR 165, vI v1, w_11, vI (v3 + 1), vI ((16 * v5) + v6), vI v5, vI (v6 + 1)]) (st' := []) (dg dc288 60 rfl) rfl rfl ?_
            refine ex_goto (t := 45) (dg dc288 61 rfl) rfl rfl ?_
            exact ih (v3 + 1) ((16 * v5) + v6) (v6 + 1) M_9 _ hf
          · refine ex_pu (ls' := [vR 165, vI v1, w_11, vI (v3 + 1), vI v4, vI v5, vI v6]) (st' := [vI v5]) (dg dc288 45 rfl) rfl rfl ?_
            refine ex_cI (vs := [vI v5]) (st' := []) (F := (jdk_bitCount v5 M_9)) (Or.inl ⟨rfl, (dg dc288 46 rfl)⟩) rfl rfl (Or.inl rfl) rfl (fun _ r9 => jdk_bitCount_ok (Z := Z) (d := e9) (by omega)  r9) hf (fun z_14 M_13 he_12 hf => ?_)
            refine ex_pu (ls' := [vR 165, vI v1, w_11, vI (v3 + 1), vI v4, vI v5, vI v6]) (st' := [vI v4, vI z_14]) (dg dc288 47 rfl) rfl rfl ?_
            refine ex_pu (ls' := [vR 165, vI v1, w_11, vI (v3 + 1), vI v4, vI v5, vI v6]) (st' := [vI 4, vI v4, vI z_14]) (dg dc288 48 rfl) rfl rfl ?_
            refine ex_pu (ls' := [vR 165, vI v1, w_11, vI (v3 + 1), vI v4, vI v5, vI v6]) (st' := [vI (iShr v4 4), vI z_14]) (dg dc288 49 rfl) rfl rfl ?_
            refine ex_cI (vs := [vI (iShr v4 4)]) (st' := [vI z_14]) (F := (jdk_bitCount (iShr v4 4) M_13)) (Or.inl ⟨rfl, (dg dc288 50 rfl)⟩) rfl rfl (Or.inl rfl) rfl (fun _ r9 => jdk_bitCount_ok (Z := Z) (d := e9) (by omega)  r9) hf (fun z_17 M_16 he_15 hf => ?_)
            refine ex_icmp (t := 110) (dg dc288 51 rfl) rfl hf (fun _ hf => ?_) (fun _ hf => ?_)
            · refine ex_pu (ls' := [vR 165, vI v1, w_11, vI (v3 + 1), vI v4, vI v5, vI v6]) (st' := [vI v4]) (dg dc288 58 rfl) rfl rfl ?_
              refine ex_pu (ls' := [vR 165, vI v1, w_11, vI (v3 + 1), vI v4, vI v5, vI v6]) (st' := []) (dg dc288 59 rfl) rfl rfl ?_
              refine ex_pu (ls' := [vR 165, vI v1, w_11, vI (v3 + 1), vI v4, vI v5, vI (v6 + 1)]) (st' := []) (dg dc288 60 rfl) rfl rfl ?_
              refine ex_goto (t := 45) (dg dc288 61 rfl) rfl rfl ?_
              exact ih (v3 + 1) v4 (v6 + 1) M_16 _ hf
            · refine ex_pu (ls' := [vR 165, vI v1, w_11, vI (v3 + 1), vI v4, vI v5, vI v6]) (st' := [vI 16]) (dg dc288 52 rfl) rfl rfl ?_
              refine ex_pu (ls' := [vR 165, vI v1, w_11, vI (v3 + 1), vI v4, vI v5, vI v6]) (st' := [vI v5, vI 16]) (dg dc288 53 rfl) rfl rfl ?_
              refine ex_pu (ls' := [vR 165, vI v1, w_11, vI (v3 + 1), vI v4, vI v5, vI v6]) (st' := [vI (16 * v5)]) (dg dc288 54 rfl) rfl rfl ?_
              refine ex_pu (ls' := [vR 165, vI v1, w_11, vI (v3 + 1), vI v4, vI v5, vI v6]) (st' := [vI v6, vI (16 * v5)]) (dg dc288 55 rfl) rfl rfl ?_
              refine ex_pu (ls' := [vR 165, vI v1, w_11, vI (v3 + 1), vI v4, vI v5, vI v6]) (st' := [vI ((16 * v5) + v6)]) (dg dc288 56 rfl) rfl rfl ?_
              refine ex_goto (t := 112) (dg dc288 57 rfl) rfl rfl ?_
              refine ex_pu (ls' := [vR 165, vI v1, w_11, vI (v3 + 1), vI ((16 * v5) + v6), vI v5, vI v6]) (st' := []) (dg dc288 59 rfl) rfl rfl ?_
              refine ex_pu (ls' := [vR 165, vI v1, w_11, vI (v3 + 1), vI ((16 * v5) + v6), vI v5, vI (v6 + 1)]) (st' := []) (dg dc288 60 rfl) rfl rfl ?_
              refine ex_goto (t := 45) (dg dc288 61 rfl) rfl rfl ?_
              exact ih (v3 + 1) ((16 * v5) + v6) (v6 + 1) M_16 _ hf
        · refine ex_goto (t := 114) (dg dc288 41 rfl) rfl rfl ?_
          refine ex_pu (ls' := [vR 165, vI v1, j2, vI v3, vI v4, vI v5, vI (v6 + 1)]) (st' := []) (dg dc288 60 rfl) rfl rfl ?_
          refine ex_goto (t := 45) (dg dc288 61 rfl) rfl rfl ?_
          exact ih v3 v4 (v6 + 1) M_9 _ hf
def mo_locks_L35  (v1 : Int) (K1 : Int → Int → MM → OR) : Nat → Int → Int → Int → MM → OR
  | 0, _, _, _, _ => none
  | n + 1, v3, v4, v5, M => (bif cmpB .ge v5 16 then (K1 v3 v4 M) else (mo_locks_L45 v1 v5 (fun v3_18 v4_19 M_20 => (mo_locks_L35 v1 K1 n v3_18 v4_19 (v5 + 1) M_20)) FU v3 v4 0 M))
set_option maxRecDepth 4000 in
theorem mo_locks_L35_ok {Z : Nat × (Nat → Int)} {d : Nat} (hd : 2 ≤ d)  {v1 : Int} {K1 : Int → Int → MM → OR} {res : AR × MM} (k1 : ∀ (x3 x4 : Int) (M : MM) (j0 j2 j5 j6 : AV), K1 x3 x4 M = some res → EX Z d 288 126 [j0, vI v1, j2, vI x3, vI x4, j5, j6] [] M res) : ∀ (n : Nat) (v3 v4 v5 : Int) (M : MM) (j2 j6 : AV), mo_locks_L35 v1 K1 n v3 v4 v5 M = some res → EX Z d 288 35 [vR 165, vI v1, j2, vI v3, vI v4, vI v5, j6] [] M res := by
  obtain ⟨e9, rfl⟩ : ∃ e9, d = e9 + 1 := ⟨d - 1, by omega⟩
  intro n
  induction n with
  | zero =>
    intro v3 v4 v5 M j2 j6 hf
    unfold mo_locks_L35 at hf
    cases hf
  | succ n ih =>
    intro v3 v4 v5 M j2 j6 hf
    unfold mo_locks_L35 at hf
    refine ex_pu (ls' := [vR 165, vI v1, j2, vI v3, vI v4, vI v5, j6]) (st' := [vI v5]) (dg dc288 22 rfl) rfl rfl ?_
    refine ex_pu (ls' := [vR 165, vI v1, j2, vI v3, vI v4, vI v5, j6]) (st' := [vI 16, vI v5]) (dg dc288 23 rfl) rfl rfl ?_
    refine ex_icmp (t := 126) (dg dc288 24 rfl) rfl hf (fun _ hf => ?_) (fun _ hf => ?_)
    · exact k1 v3 v4 M _ _ _ _ hf
    · refine ex_pu (ls' := [vR 165, vI v1, j2, vI v3, vI v4, vI v5, j6]) (st' := [vI 0]) (dg dc288 25 rfl) rfl rfl ?_
      refine ex_pu (ls' := [vR 165, vI v1, j2, vI v3, vI v4, vI v5, vI 0]) (st' := []) (dg dc288 26 rfl) rfl rfl ?_
      refine mo_locks_L45_ok hd  ?_ FU v3 v4 0 M _ hf
      · intro v3_18 v4_19 M_20 j2_21 j6_22 hf
        refine ex_pu (ls' := [vR 165, vI v1, j2_21, vI v3_18, vI v4_19, vI (v5 + 1), j6_22]) (st' := []) (dg dc288 62 rfl) rfl rfl ?_
        refine ex_goto (t := 35) (dg dc288 63 rfl) rfl rfl ?_
        exact ih v3_18 v4_19 (v5 + 1) M_20 _ _ hf
def mo_locks_J18   (v1 s0 : Int) (M : MM) : OR :=
  (bI (mo_throwsIf s0 1 M) fun z_6 M_5 => (bif cmpB .eq z_6 0 then (mo_locks_L35 v1 (fun v3_23 v4_24 M_25 => (bif cmpB .eq v1 0 then some (rI v3_23, M_25) else some (rI v4_24, M_25))) FU 0 (-1) 0 M_5) else some (rI 0, M_5)))
set_option maxRecDepth 4000 in
theorem mo_locks_J18_ok {Z : Nat × (Nat → Int)} {d : Nat} (hd : 2 ≤ d)   {res : AR × MM}  : ∀ (v1 s0 : Int) (M : MM) (j2 j3 j4 j5 j6 : AV), mo_locks_J18   v1 s0 M = some res → EX Z d 288 18 [vR 165, vI v1, j2, j3, j4, j5, j6] [vI s0, vR 165] M res := by
  obtain ⟨e9, rfl⟩ : ∃ e9, d = e9 + 1 := ⟨d - 1, by omega⟩
  intro v1 s0 M j2 j3 j4 j5 j6 hf
  unfold mo_locks_J18 at hf
  refine ex_pu (ls' := [vR 165, vI v1, j2, j3, j4, j5, j6]) (st' := [vI 1, vI s0, vR 165]) (dg dc288 11 rfl) rfl rfl ?_
  refine ex_cI (vs := [vR 165, vI s0, vI 1]) (st' := []) (F := (mo_throwsIf s0 1 M)) (Or.inr (Or.inl ⟨rfl, (dg dc288 12 rfl)⟩)) rfl rfl (rk1 (LOC.st (Nat.le_of_ble_eq_true rfl) rfl) rfl) rfl (fun _ r9 => mo_throwsIf_ok (Z := Z) (d := e9) (by omega)  r9) hf (fun z_6 M_5 he_4 hf => ?_)
  refine ex_if (t := 27) (dg dc288 13 rfl) rfl hf (fun _ hf => ?_) (fun _ hf => ?_)
  · refine ex_pu (ls' := [vR 165, vI v1, j2, j3, j4, j5, j6]) (st' := [vI 0]) (dg dc288 16 rfl) rfl rfl ?_
    refine ex_istDn (dg dc288 17 rfl) rfl rfl (fun w_7 => ?_)
    show EX Z _ 288 _ [vR 165, vI v1, w_7, vI 0, j4, j5, j6] [] _ _
    refine ex_pu (ls' := [vR 165, vI v1, w_7, vI 0, j4, j5, j6]) (st' := [vI (-1)]) (dg dc288 18 rfl) rfl rfl ?_
    refine ex_pu (ls' := [vR 165, vI v1, w_7, vI 0, vI (-1), j5, j6]) (st' := []) (dg dc288 19 rfl) rfl rfl ?_
    refine ex_pu (ls' := [vR 165, vI v1, w_7, vI 0, vI (-1), j5, j6]) (st' := [vI 0]) (dg dc288 20 rfl) rfl rfl ?_
    refine ex_pu (ls' := [vR 165, vI v1, w_7, vI 0, vI (-1), vI 0, j6]) (st' := []) (dg dc288 21 rfl) rfl rfl ?_
    refine mo_locks_L35_ok hd  ?_ FU 0 (-1) 0 M_5 _ _ hf
    · intro v3_23 v4_24 M_25 j0_26 j2_27 j5_28 j6_29 hf
      refine ex_pu (ls' := [j0_26, vI v1, j2_27, vI v3_23, vI v4_24, j5_28, j6_29]) (st' := [vI v1]) (dg dc288 64 rfl) rfl rfl ?_
      refine ex_if (t := 135) (dg dc288 65 rfl) rfl hf (fun _ hf => ?_) (fun _ hf => ?_)
      · refine ex_pu (ls' := [j0_26, vI v1, j2_27, vI v3_23, vI v4_24, j5_28, j6_29]) (st' := [vI v3_23]) (dg dc288 68 rfl) rfl rfl ?_
        exact ex_ire (dg dc288 69 rfl) rfl hf
      · refine ex_pu (ls' := [j0_26, vI v1, j2_27, vI v3_23, vI v4_24, j5_28, j6_29]) (st' := [vI v4_24]) (dg dc288 66 rfl) rfl rfl ?_
        refine ex_goto (t := 136) (dg dc288 67 rfl) rfl rfl ?_
        exact ex_ire (dg dc288 69 rfl) rfl hf
  · refine ex_pu (ls' := [vR 165, vI v1, j2, j3, j4, j5, j6]) (st' := [vI 0]) (dg dc288 14 rfl) rfl rfl ?_
    exact ex_ire (dg dc288 15 rfl) rfl hf
def mo_locks (v1 : Int) (M : MM) : OR :=
  (bI (mo_readTwos 15 1 M) fun z_3 M_2 => (bif cmpB .ne z_3 0 then (mo_locks_J18   v1 0 M_2) else (mo_locks_J18   v1 1 M_2)))
set_option maxRecDepth 4000 in
theorem mo_locks_ok {Z : Nat × (Nat → Int)} {d : Nat} (hd : 2 ≤ d) {M : MM}  {v1 : Int} {res : AR × MM} (hf : mo_locks v1 M = some res) : EX Z d 288 0 (ent 288 [vR 165, vI v1]) [] M res := by
  obtain ⟨e9, rfl⟩ : ∃ e9, d = e9 + 1 := ⟨d - 1, by omega⟩
  unfold mo_locks at hf
  show EX Z _ 288 0 [vR 165, vI v1, vU, vU, vU, vU, vU] [] M res
  refine ex_pu (ls' := [vR 165, vI v1, vU, vU, vU, vU, vU]) (st' := [vR 165]) (dg dc288 0 rfl) rfl rfl ?_
  refine ex_pu (ls' := [vR 165, vI v1, vU, vU, vU, vU, vU]) (st' := [vI 15, vR 165]) (dg dc288 1 rfl) rfl rfl ?_
  refine ex_pu (ls' := [vR 165, vI v1, vU, vU, vU, vU, vU]) (st' := [vI 1, vI 15, vR 165]) (dg dc288 2 rfl) rfl rfl ?_
  refine ex_cI (vs := [vR 165, vI 15, vI 1]) (st' := []) (F := (mo_readTwos 15 1 M)) (Or.inr (Or.inl ⟨rfl, (dg dc288 3 rfl)⟩)) rfl rfl (rk1 (LOC.st (Nat.le_of_ble_eq_true rfl) rfl) rfl) rfl (fun _ r9 => mo_readTwos_ok (Z := Z) (d := e9) (by omega)  r9) hf (fun z_3 M_2 he_1 hf => ?_)
  refine ex_pu (ls' := [vR 165, vI v1, vI z_3, vU, vU, vU, vU]) (st' := []) (dg dc288 4 rfl) rfl rfl ?_
  refine ex_pu (ls' := [vR 165, vI v1, vI z_3, vU, vU, vU, vU]) (st' := [vR 165]) (dg dc288 5 rfl) rfl rfl ?_
  refine ex_pu (ls' := [vR 165, vI v1, vI z_3, vU, vU, vU, vU]) (st' := [vI z_3, vR 165]) (dg dc288 6 rfl) rfl rfl ?_
  refine ex_if (t := 17) (dg dc288 7 rfl) rfl hf (fun _ hf => ?_) (fun _ hf => ?_)
  · refine ex_pu (ls' := [vR 165, vI v1, vI z_3, vU, vU, vU, vU]) (st' := [vI 0, vR 165]) (dg dc288 10 rfl) rfl rfl ?_
    exact mo_locks_J18_ok hd   v1 0 M_2 _ _ _ _ _ hf
  · refine ex_pu (ls' := [vR 165, vI v1, vI z_3, vU, vU, vU, vU]) (st' := [vI 1, vR 165]) (dg dc288 8 rfl) rfl rfl ?_
    refine ex_goto (t := 18) (dg dc288 9 rfl) rfl rfl ?_
    exact mo_locks_J18_ok hd   v1 1 M_2 _ _ _ _ _ hf
-- GlassHillLaw.thing
def il306 : List (Nat × Instr × Nat) := [(0, .aload_n 3, 1), (1, .iconst 0, 1), (2, .aload_n 0, 1), (3, .iload_n 1, 1), (4, .iload_n 2, 1), (5, .invokevirtual 28, 3), (8, .i2l, 1), (9, .lastore, 1), (10, .goto 11, 3), (13, .astore 4, 2), (15, .iconst 1, 1), (16, .ireturn, 1), (17, .astore 4, 2), (19, .iconst 2, 1), (20, .ireturn, 1), (21, .iconst 0, 1), (22, .ireturn, 1)]
theorem dc306 : dcs (mC 306) il306 := dc_of (by decide +kernel)
def drv_thing (v1 : Int) (v2 : Int) (M : MM) : OR :=
  (bH (gh_thing v1 v2 M) (fun z_3 M_2 => (bif inB 0 1 then (sM (mU M_2 181 0 (w32 z_3)) fun M_4 => some (rI 0, M_4)) else none)) fun c_6 M_2 => (bif Nat.beq c_6 15 then some (rI 1, M_2) else (bif Nat.beq c_6 16 then some (rI 2, M_2) else none)))
set_option maxRecDepth 4000 in
theorem drv_thing_ok {Z : Nat × (Nat → Int)} {d : Nat} (hd : 3 ≤ d) {M : MM}  {v1 v2 : Int} {res : AR × MM} (hf : drv_thing v1 v2 M = some res) : EX Z d 306 0 (ent 306 [vR 0, vI v1, vI v2, vR 181]) [] M res := by
  obtain ⟨e9, rfl⟩ : ∃ e9, d = e9 + 1 := ⟨d - 1, by omega⟩
  unfold drv_thing at hf
  show EX Z _ 306 0 [vR 0, vI v1, vI v2, vR 181, vU] [] M res
  refine ex_pu (ls' := [vR 0, vI v1, vI v2, vR 181, vU]) (st' := [vR 181]) (dg dc306 0 rfl) rfl rfl ?_
  refine ex_pu (ls' := [vR 0, vI v1, vI v2, vR 181, vU]) (st' := [vI 0, vR 181]) (dg dc306 1 rfl) rfl rfl ?_
  refine ex_pu (ls' := [vR 0, vI v1, vI v2, vR 181, vU]) (st' := [vR 0, vI 0, vR 181]) (dg dc306 2 rfl) rfl rfl ?_
  refine ex_pu (ls' := [vR 0, vI v1, vI v2, vR 181, vU]) (st' := [vI v1, vR 0, vI 0, vR 181]) (dg dc306 3 rfl) rfl rfl ?_
  refine ex_pu (ls' := [vR 0, vI v1, vI v2, vR 181, vU]) (st' := [vI v2, vI v1, vR 0, vI 0, vR 181]) (dg dc306 4 rfl) rfl rfl ?_
  refine ex_cH (vs := [vR 0, vI v1, vI v2]) (st' := [vI 0, vR 181]) (F := (gh_thing v1 v2 M)) (Or.inr (Or.inl ⟨rfl, (dg dc306 5 rfl)⟩)) rfl rfl (rk1 (LOC.st (Nat.le_of_ble_eq_true rfl) rfl) rfl) (fun _ r9 => gh_thing_ok (Z := Z) (d := e9) (by omega)  r9) hf (fun z_3 M_2 he_1 hf => ?_) (fun c_6 M_2 he_1 hf => ?_)
  · refine ex_pu (ls' := [vR 0, vI v1, vI v2, vR 181, vU]) (st' := [vJ (w32 z_3), vI 0, vR 181]) (dg dc306 6 rfl) rfl rfl ?_
    refine ex_last (dg dc306 7 rfl) (LOC.st (Nat.le_of_ble_eq_true rfl) rfl) rfl rfl hf (fun _ hf => ?_)
    refine ex_gen hf (fun M_4 hM_5 hf => ?_)
    refine ex_goto (t := 21) (dg dc306 8 rfl) rfl rfl ?_
    refine ex_pu (ls' := [vR 0, vI v1, vI v2, vR 181, vU]) (st' := [vI 0]) (dg dc306 15 rfl) rfl rfl ?_
    exact ex_ire (dg dc306 16 rfl) rfl hf
  · refine ex_bif hf (fun hb hf => ?_) (fun _ hf => ?_)
    · obtain rfl := bq hb
      refine ex_hnd (vs := [vR 0, vI v1, vI v2]) (st' := [vI 0, vR 181]) (ci := 15) (g := 13) (k0 := 4) (g2 := 15) (Or.inr (Or.inl ⟨rfl, (dg dc306 5 rfl)⟩)) rfl rfl (fun _ hR => RK.calO hR rfl (rk1 (LOC.st (Nat.le_of_ble_eq_true rfl) rfl) rfl)) ⟨by decide, by decide⟩ (by decide +kernel) (Or.inr ⟨(dg dc306 9 rfl), rfl⟩) (blt_ok rfl) (gh_thing_ok (Z := Z) (d := e9) (by omega)  he_1) ?_
      show EX Z _ 306 15 [vR 0, vI v1, vI v2, vR 181, vU] [] M_2 res
      refine ex_pu (ls' := [vR 0, vI v1, vI v2, vR 181, vU]) (st' := [vI 1]) (dg dc306 10 rfl) rfl rfl ?_
      exact ex_ire (dg dc306 11 rfl) rfl hf
    · refine ex_bif hf (fun hb hf => ?_) (fun _ hf => ?_)
      · obtain rfl := bq hb
        refine ex_hnd (vs := [vR 0, vI v1, vI v2]) (st' := [vI 0, vR 181]) (ci := 16) (g := 17) (k0 := 4) (g2 := 19) (Or.inr (Or.inl ⟨rfl, (dg dc306 5 rfl)⟩)) rfl rfl (fun _ hR => RK.calO hR rfl (rk1 (LOC.st (Nat.le_of_ble_eq_true rfl) rfl) rfl)) ⟨by decide, by decide⟩ (by decide +kernel) (Or.inr ⟨(dg dc306 12 rfl), rfl⟩) (blt_ok rfl) (gh_thing_ok (Z := Z) (d := e9) (by omega)  he_1) ?_
        show EX Z _ 306 19 [vR 0, vI v1, vI v2, vR 181, vU] [] M_2 res
        refine ex_pu (ls' := [vR 0, vI v1, vI v2, vR 181, vU]) (st' := [vI 2]) (dg dc306 13 rfl) rfl rfl ?_
        exact ex_ire (dg dc306 14 rfl) rfl hf
      · cases hf
-- GlassHillLaw.road
def il307 : List (Nat × Instr × Nat) := [(0, .aload_n 3, 1), (1, .iconst 0, 1), (2, .aload_n 0, 1), (3, .iload_n 1, 1), (4, .iload_n 2, 1), (5, .invokevirtual 31, 3), (8, .i2l, 1), (9, .lastore, 1), (10, .goto 11, 3), (13, .astore 4, 2), (15, .iconst 1, 1), (16, .ireturn, 1), (17, .astore 4, 2), (19, .iconst 2, 1), (20, .ireturn, 1), (21, .iconst 0, 1), (22, .ireturn, 1)]
theorem dc307 : dcs (mC 307) il307 := dc_of (by decide +kernel)
def drv_road (v1 : Int) (v2 : Int) (M : MM) : OR :=
  (bH (gh_road v1 v2 M) (fun z_3 M_2 => (bif inB 0 1 then (sM (mU M_2 181 0 (w32 z_3)) fun M_4 => some (rI 0, M_4)) else none)) fun c_6 M_2 => (bif Nat.beq c_6 15 then some (rI 1, M_2) else (bif Nat.beq c_6 16 then some (rI 2, M_2) else none)))
set_option maxRecDepth 4000 in
theorem drv_road_ok {Z : Nat × (Nat → Int)} {d : Nat} (hd : 2 ≤ d) {M : MM}  {v1 v2 : Int} {res : AR × MM} (hf : drv_road v1 v2 M = some res) : EX Z d 307 0 (ent 307 [vR 0, vI v1, vI v2, vR 181]) [] M res := by
  obtain ⟨e9, rfl⟩ : ∃ e9, d = e9 + 1 := ⟨d - 1, by omega⟩
  unfold drv_road at hf
  show EX Z _ 307 0 [vR 0, vI v1, vI v2, vR 181, vU] [] M res
  refine ex_pu (ls' := [vR 0, vI v1, vI v2, vR 181, vU]) (st' := [vR 181]) (dg dc307 0 rfl) rfl rfl ?_
  refine ex_pu (ls' := [vR 0, vI v1, vI v2, vR 181, vU]) (st' := [vI 0, vR 181]) (dg dc307 1 rfl) rfl rfl ?_
  refine ex_pu (ls' := [vR 0, vI v1, vI v2, vR 181, vU]) (st' := [vR 0, vI 0, vR 181]) (dg dc307 2 rfl) rfl rfl ?_
  refine ex_pu (ls' := [vR 0, vI v1, vI v2, vR 181, vU]) (st' := [vI v1, vR 0, vI 0, vR 181]) (dg dc307 3 rfl) rfl rfl ?_
  refine ex_pu (ls' := [vR 0, vI v1, vI v2, vR 181, vU]) (st' := [vI v2, vI v1, vR 0, vI 0, vR 181]) (dg dc307 4 rfl) rfl rfl ?_
  refine ex_cH (vs := [vR 0, vI v1, vI v2]) (st' := [vI 0, vR 181]) (F := (gh_road v1 v2 M)) (Or.inr (Or.inl ⟨rfl, (dg dc307 5 rfl)⟩)) rfl rfl (rk1 (LOC.st (Nat.le_of_ble_eq_true rfl) rfl) rfl) (fun _ r9 => gh_road_ok (Z := Z) (d := e9) (by omega)  r9) hf (fun z_3 M_2 he_1 hf => ?_) (fun c_6 M_2 he_1 hf => ?_)
  · refine ex_pu (ls' := [vR 0, vI v1, vI v2, vR 181, vU]) (st' := [vJ (w32 z_3), vI 0, vR 181]) (dg dc307 6 rfl) rfl rfl ?_
    refine ex_last (dg dc307 7 rfl) (LOC.st (Nat.le_of_ble_eq_true rfl) rfl) rfl rfl hf (fun _ hf => ?_)
    refine ex_gen hf (fun M_4 hM_5 hf => ?_)
    refine ex_goto (t := 21) (dg dc307 8 rfl) rfl rfl ?_
    refine ex_pu (ls' := [vR 0, vI v1, vI v2, vR 181, vU]) (st' := [vI 0]) (dg dc307 15 rfl) rfl rfl ?_
    exact ex_ire (dg dc307 16 rfl) rfl hf
  · refine ex_bif hf (fun hb hf => ?_) (fun _ hf => ?_)
    · obtain rfl := bq hb
      refine ex_hnd (vs := [vR 0, vI v1, vI v2]) (st' := [vI 0, vR 181]) (ci := 15) (g := 13) (k0 := 4) (g2 := 15) (Or.inr (Or.inl ⟨rfl, (dg dc307 5 rfl)⟩)) rfl rfl (fun _ hR => RK.calO hR rfl (rk1 (LOC.st (Nat.le_of_ble_eq_true rfl) rfl) rfl)) ⟨by decide, by decide⟩ (by decide +kernel) (Or.inr ⟨(dg dc307 9 rfl), rfl⟩) (blt_ok rfl) (gh_road_ok (Z := Z) (d := e9) (by omega)  he_1) ?_
      show EX Z _ 307 15 [vR 0, vI v1, vI v2, vR 181, vU] [] M_2 res
      refine ex_pu (ls' := [vR 0, vI v1, vI v2, vR 181, vU]) (st' := [vI 1]) (dg dc307 10 rfl) rfl rfl ?_
      exact ex_ire (dg dc307 11 rfl) rfl hf
    · refine ex_bif hf (fun hb hf => ?_) (fun _ hf => ?_)
      · obtain rfl := bq hb
        refine ex_hnd (vs := [vR 0, vI v1, vI v2]) (st' := [vI 0, vR 181]) (ci := 16) (g := 17) (k0 := 4) (g2 := 19) (Or.inr (Or.inl ⟨rfl, (dg dc307 5 rfl)⟩)) rfl rfl (fun _ hR => RK.calO hR rfl (rk1 (LOC.st (Nat.le_of_ble_eq_true rfl) rfl) rfl)) ⟨by decide, by decide⟩ (by decide +kernel) (Or.inr ⟨(dg dc307 12 rfl), rfl⟩) (blt_ok rfl) (gh_road_ok (Z := Z) (d := e9) (by omega)  he_1) ?_
        show EX Z _ 307 19 [vR 0, vI v1, vI v2, vR 181, vU] [] M_2 res
        refine ex_pu (ls' := [vR 0, vI v1, vI v2, vR 181, vU]) (st' := [vI 2]) (dg dc307 13 rfl) rfl rfl ?_
        exact ex_ire (dg dc307 14 rfl) rfl hf
      · cases hf
-- GlassHillLaw.brother
def il308 : List (Nat × Instr × Nat) := [(0, .aload_n 3, 1), (1, .iconst 0, 1), (2, .aload_n 0, 1), (3, .iload_n 1, 1), (4, .iload_n 2, 1), (5, .invokevirtual 34, 3), (8, .i2l, 1), (9, .lastore, 1), (10, .goto 11, 3), (13, .astore 4, 2), (15, .iconst 1, 1), (16, .ireturn, 1), (17, .astore 4, 2), (19, .iconst 2, 1), (20, .ireturn, 1), (21, .iconst 0, 1), (22, .ireturn, 1)]
theorem dc308 : dcs (mC 308) il308 := dc_of (by decide +kernel)
def drv_brother (v1 : Int) (v2 : Int) (M : MM) : OR :=
  (bH (gh_brother v1 v2 M) (fun z_3 M_2 => (bif inB 0 1 then (sM (mU M_2 181 0 (w32 z_3)) fun M_4 => some (rI 0, M_4)) else none)) fun c_6 M_2 => (bif Nat.beq c_6 15 then some (rI 1, M_2) else (bif Nat.beq c_6 16 then some (rI 2, M_2) else none)))
set_option maxRecDepth 4000 in
theorem drv_brother_ok {Z : Nat × (Nat → Int)} {d : Nat} (hd : 2 ≤ d) {M : MM}  {v1 v2 : Int} {res : AR × MM} (hf : drv_brother v1 v2 M = some res) : EX Z d 308 0 (ent 308 [vR 0, vI v1, vI v2, vR 181]) [] M res := by
  obtain ⟨e9, rfl⟩ : ∃ e9, d = e9 + 1 := ⟨d - 1, by omega⟩
  unfold drv_brother at hf
  show EX Z _ 308 0 [vR 0, vI v1, vI v2, vR 181, vU] [] M res
  refine ex_pu (ls' := [vR 0, vI v1, vI v2, vR 181, vU]) (st' := [vR 181]) (dg dc308 0 rfl) rfl rfl ?_
  refine ex_pu (ls' := [vR 0, vI v1, vI v2, vR 181, vU]) (st' := [vI 0, vR 181]) (dg dc308 1 rfl) rfl rfl ?_
  refine ex_pu (ls' := [vR 0, vI v1, vI v2, vR 181, vU]) (st' := [vR 0, vI 0, vR 181]) (dg dc308 2 rfl) rfl rfl ?_
  refine ex_pu (ls' := [vR 0, vI v1, vI v2, vR 181, vU]) (st' := [vI v1, vR 0, vI 0, vR 181]) (dg dc308 3 rfl) rfl rfl ?_
  refine ex_pu (ls' := [vR 0, vI v1, vI v2, vR 181, vU]) (st' := [vI v2, vI v1, vR 0, vI 0, vR 181]) (dg dc308 4 rfl) rfl rfl ?_
  refine ex_cH (vs := [vR 0, vI v1, vI v2]) (st' := [vI 0, vR 181]) (F := (gh_brother v1 v2 M)) (Or.inr (Or.inl ⟨rfl, (dg dc308 5 rfl)⟩)) rfl rfl (rk1 (LOC.st (Nat.le_of_ble_eq_true rfl) rfl) rfl) (fun _ r9 => gh_brother_ok (Z := Z) (d := e9) (by omega)  r9) hf (fun z_3 M_2 he_1 hf => ?_) (fun c_6 M_2 he_1 hf => ?_)
  · refine ex_pu (ls' := [vR 0, vI v1, vI v2, vR 181, vU]) (st' := [vJ (w32 z_3), vI 0, vR 181]) (dg dc308 6 rfl) rfl rfl ?_
    refine ex_last (dg dc308 7 rfl) (LOC.st (Nat.le_of_ble_eq_true rfl) rfl) rfl rfl hf (fun _ hf => ?_)
    refine ex_gen hf (fun M_4 hM_5 hf => ?_)
    refine ex_goto (t := 21) (dg dc308 8 rfl) rfl rfl ?_
    refine ex_pu (ls' := [vR 0, vI v1, vI v2, vR 181, vU]) (st' := [vI 0]) (dg dc308 15 rfl) rfl rfl ?_
    exact ex_ire (dg dc308 16 rfl) rfl hf
  · refine ex_bif hf (fun hb hf => ?_) (fun _ hf => ?_)
    · obtain rfl := bq hb
      refine ex_hnd (vs := [vR 0, vI v1, vI v2]) (st' := [vI 0, vR 181]) (ci := 15) (g := 13) (k0 := 4) (g2 := 15) (Or.inr (Or.inl ⟨rfl, (dg dc308 5 rfl)⟩)) rfl rfl (fun _ hR => RK.calO hR rfl (rk1 (LOC.st (Nat.le_of_ble_eq_true rfl) rfl) rfl)) ⟨by decide, by decide⟩ (by decide +kernel) (Or.inr ⟨(dg dc308 9 rfl), rfl⟩) (blt_ok rfl) (gh_brother_ok (Z := Z) (d := e9) (by omega)  he_1) ?_
      show EX Z _ 308 15 [vR 0, vI v1, vI v2, vR 181, vU] [] M_2 res
      refine ex_pu (ls' := [vR 0, vI v1, vI v2, vR 181, vU]) (st' := [vI 1]) (dg dc308 10 rfl) rfl rfl ?_
      exact ex_ire (dg dc308 11 rfl) rfl hf
    · refine ex_bif hf (fun hb hf => ?_) (fun _ hf => ?_)
      · obtain rfl := bq hb
        refine ex_hnd (vs := [vR 0, vI v1, vI v2]) (st' := [vI 0, vR 181]) (ci := 16) (g := 17) (k0 := 4) (g2 := 19) (Or.inr (Or.inl ⟨rfl, (dg dc308 5 rfl)⟩)) rfl rfl (fun _ hR => RK.calO hR rfl (rk1 (LOC.st (Nat.le_of_ble_eq_true rfl) rfl) rfl)) ⟨by decide, by decide⟩ (by decide +kernel) (Or.inr ⟨(dg dc308 12 rfl), rfl⟩) (blt_ok rfl) (gh_brother_ok (Z := Z) (d := e9) (by omega)  he_1) ?_
        show EX Z _ 308 19 [vR 0, vI v1, vI v2, vR 181, vU] [] M_2 res
        refine ex_pu (ls' := [vR 0, vI v1, vI v2, vR 181, vU]) (st' := [vI 2]) (dg dc308 13 rfl) rfl rfl ?_
        exact ex_ire (dg dc308 14 rfl) rfl hf
      · cases hf
-- GlassHillLaw.girl
def il309 : List (Nat × Instr × Nat) := [(0, .aload_n 2, 1), (1, .iconst 0, 1), (2, .aload_n 0, 1), (3, .iload_n 1, 1), (4, .invokevirtual 37, 3), (7, .i2l, 1), (8, .lastore, 1), (9, .goto 9, 3), (12, .astore_n 3, 1), (13, .iconst 1, 1), (14, .ireturn, 1), (15, .astore_n 3, 1), (16, .iconst 2, 1), (17, .ireturn, 1), (18, .iconst 0, 1), (19, .ireturn, 1)]
theorem dc309 : dcs (mC 309) il309 := dc_of (by decide +kernel)
def drv_girl (v1 : Int) (M : MM) : OR :=
  (bH (gh_girl v1 M) (fun z_3 M_2 => (bif inB 0 1 then (sM (mU M_2 181 0 (w32 z_3)) fun M_4 => some (rI 0, M_4)) else none)) fun c_6 M_2 => (bif Nat.beq c_6 16 then some (rI 1, M_2) else (bif Nat.beq c_6 14 then some (rI 2, M_2) else none)))
set_option maxRecDepth 4000 in
theorem drv_girl_ok {Z : Nat × (Nat → Int)} {d : Nat} (hd : 3 ≤ d) {M : MM}  {v1 : Int} {res : AR × MM} (hf : drv_girl v1 M = some res) : EX Z d 309 0 (ent 309 [vR 0, vI v1, vR 181]) [] M res := by
  obtain ⟨e9, rfl⟩ : ∃ e9, d = e9 + 1 := ⟨d - 1, by omega⟩
  unfold drv_girl at hf
  show EX Z _ 309 0 [vR 0, vI v1, vR 181, vU] [] M res
  refine ex_pu (ls' := [vR 0, vI v1, vR 181, vU]) (st' := [vR 181]) (dg dc309 0 rfl) rfl rfl ?_
  refine ex_pu (ls' := [vR 0, vI v1, vR 181, vU]) (st' := [vI 0, vR 181]) (dg dc309 1 rfl) rfl rfl ?_
  refine ex_pu (ls' := [vR 0, vI v1, vR 181, vU]) (st' := [vR 0, vI 0, vR 181]) (dg dc309 2 rfl) rfl rfl ?_
  refine ex_pu (ls' := [vR 0, vI v1, vR 181, vU]) (st' := [vI v1, vR 0, vI 0, vR 181]) (dg dc309 3 rfl) rfl rfl ?_
  refine ex_cH (vs := [vR 0, vI v1]) (st' := [vI 0, vR 181]) (F := (gh_girl v1 M)) (Or.inr (Or.inl ⟨rfl, (dg dc309 4 rfl)⟩)) rfl rfl (rk1 (LOC.st (Nat.le_of_ble_eq_true rfl) rfl) rfl) (fun _ r9 => gh_girl_ok (Z := Z) (d := e9) (by omega)  r9) hf (fun z_3 M_2 he_1 hf => ?_) (fun c_6 M_2 he_1 hf => ?_)
  · refine ex_pu (ls' := [vR 0, vI v1, vR 181, vU]) (st' := [vJ (w32 z_3), vI 0, vR 181]) (dg dc309 5 rfl) rfl rfl ?_
    refine ex_last (dg dc309 6 rfl) (LOC.st (Nat.le_of_ble_eq_true rfl) rfl) rfl rfl hf (fun _ hf => ?_)
    refine ex_gen hf (fun M_4 hM_5 hf => ?_)
    refine ex_goto (t := 18) (dg dc309 7 rfl) rfl rfl ?_
    refine ex_pu (ls' := [vR 0, vI v1, vR 181, vU]) (st' := [vI 0]) (dg dc309 14 rfl) rfl rfl ?_
    exact ex_ire (dg dc309 15 rfl) rfl hf
  · refine ex_bif hf (fun hb hf => ?_) (fun _ hf => ?_)
    · obtain rfl := bq hb
      refine ex_hnd (vs := [vR 0, vI v1]) (st' := [vI 0, vR 181]) (ci := 16) (g := 12) (k0 := 3) (g2 := 13) (Or.inr (Or.inl ⟨rfl, (dg dc309 4 rfl)⟩)) rfl rfl (fun _ hR => RK.calO hR rfl (rk1 (LOC.st (Nat.le_of_ble_eq_true rfl) rfl) rfl)) ⟨by decide, by decide⟩ (by decide +kernel) (Or.inl ⟨3, rfl, (dg dc309 8 rfl), rfl⟩) (blt_ok rfl) (gh_girl_ok (Z := Z) (d := e9) (by omega)  he_1) ?_
      show EX Z _ 309 13 [vR 0, vI v1, vR 181, vU] [] M_2 res
      refine ex_pu (ls' := [vR 0, vI v1, vR 181, vU]) (st' := [vI 1]) (dg dc309 9 rfl) rfl rfl ?_
      exact ex_ire (dg dc309 10 rfl) rfl hf
    · refine ex_bif hf (fun hb hf => ?_) (fun _ hf => ?_)
      · obtain rfl := bq hb
        refine ex_hnd (vs := [vR 0, vI v1]) (st' := [vI 0, vR 181]) (ci := 14) (g := 15) (k0 := 3) (g2 := 16) (Or.inr (Or.inl ⟨rfl, (dg dc309 4 rfl)⟩)) rfl rfl (fun _ hR => RK.calO hR rfl (rk1 (LOC.st (Nat.le_of_ble_eq_true rfl) rfl) rfl)) ⟨by decide, by decide⟩ (by decide +kernel) (Or.inl ⟨3, rfl, (dg dc309 11 rfl), rfl⟩) (blt_ok rfl) (gh_girl_ok (Z := Z) (d := e9) (by omega)  he_1) ?_
        show EX Z _ 309 16 [vR 0, vI v1, vR 181, vU] [] M_2 res
        refine ex_pu (ls' := [vR 0, vI v1, vR 181, vU]) (st' := [vI 2]) (dg dc309 12 rfl) rfl rfl ?_
        exact ex_ire (dg dc309 13 rfl) rfl hf
      · cases hf
-- GlassHillLaw.fits
def il311 : List (Nat × Instr × Nat) := [(0, .aload_n 3, 1), (1, .iconst 0, 1), (2, .aload_n 0, 1), (3, .iload_n 1, 1), (4, .iload_n 2, 1), (5, .invokevirtual 46, 3), (8, .ifCond .eq 7, 3), (11, .lconst 1, 1), (12, .goto 4, 3), (15, .lconst 0, 1), (16, .lastore, 1), (17, .goto 11, 3), (20, .astore 4, 2), (22, .iconst 1, 1), (23, .ireturn, 1), (24, .astore 4, 2), (26, .iconst 2, 1), (27, .ireturn, 1), (28, .iconst 0, 1), (29, .ireturn, 1)]
theorem dc311 : dcs (mC 311) il311 := dc_of (by decide +kernel)
def drv_fits (v1 : Int) (v2 : Int) (M : MM) : OR :=
  (bH (gh_fits v1 v2 M) (fun z_3 M_2 => (bif cmpB .eq z_3 0 then (bif inB 0 1 then (sM (mU M_2 181 0 0) fun M_4 => some (rI 0, M_4)) else none) else (bif inB 0 1 then (sM (mU M_2 181 0 1) fun M_6 => some (rI 0, M_6)) else none))) fun c_8 M_2 => (bif Nat.beq c_8 15 then some (rI 1, M_2) else (bif Nat.beq c_8 14 then some (rI 2, M_2) else none)))
set_option maxRecDepth 4000 in
theorem drv_fits_ok {Z : Nat × (Nat → Int)} {d : Nat} (hd : 3 ≤ d) {M : MM}  {v1 v2 : Int} {res : AR × MM} (hf : drv_fits v1 v2 M = some res) : EX Z d 311 0 (ent 311 [vR 0, vI v1, vI v2, vR 181]) [] M res := by
  obtain ⟨e9, rfl⟩ : ∃ e9, d = e9 + 1 := ⟨d - 1, by omega⟩
  unfold drv_fits at hf
  show EX Z _ 311 0 [vR 0, vI v1, vI v2, vR 181, vU] [] M res
  refine ex_pu (ls' := [vR 0, vI v1, vI v2, vR 181, vU]) (st' := [vR 181]) (dg dc311 0 rfl) rfl rfl ?_
  refine ex_pu (ls' := [vR 0, vI v1, vI v2, vR 181, vU]) (st' := [vI 0, vR 181]) (dg dc311 1 rfl) rfl rfl ?_
  refine ex_pu (ls' := [vR 0, vI v1, vI v2, vR 181, vU]) (st' := [vR 0, vI 0, vR 181]) (dg dc311 2 rfl) rfl rfl ?_
  refine ex_pu (ls' := [vR 0, vI v1, vI v2, vR 181, vU]) (st' := [vI v1, vR 0, vI 0, vR 181]) (dg dc311 3 rfl) rfl rfl ?_
  refine ex_pu (ls' := [vR 0, vI v1, vI v2, vR 181, vU]) (st' := [vI v2, vI v1, vR 0, vI 0, vR 181]) (dg dc311 4 rfl) rfl rfl ?_
  refine ex_cH (vs := [vR 0, vI v1, vI v2]) (st' := [vI 0, vR 181]) (F := (gh_fits v1 v2 M)) (Or.inr (Or.inl ⟨rfl, (dg dc311 5 rfl)⟩)) rfl rfl (rk1 (LOC.st (Nat.le_of_ble_eq_true rfl) rfl) rfl) (fun _ r9 => gh_fits_ok (Z := Z) (d := e9) (by omega)  r9) hf (fun z_3 M_2 he_1 hf => ?_) (fun c_8 M_2 he_1 hf => ?_)
  · refine ex_if (t := 15) (dg dc311 6 rfl) rfl hf (fun _ hf => ?_) (fun _ hf => ?_)
    · refine ex_pu (ls' := [vR 0, vI v1, vI v2, vR 181, vU]) (st' := [vJ 0, vI 0, vR 181]) (dg dc311 9 rfl) rfl rfl ?_
      refine ex_last (dg dc311 10 rfl) (LOC.st (Nat.le_of_ble_eq_true rfl) rfl) rfl rfl hf (fun _ hf => ?_)
      refine ex_gen hf (fun M_4 hM_5 hf => ?_)
      refine ex_goto (t := 28) (dg dc311 11 rfl) rfl rfl ?_
      refine ex_pu (ls' := [vR 0, vI v1, vI v2, vR 181, vU]) (st' := [vI 0]) (dg dc311 18 rfl) rfl rfl ?_
      exact ex_ire (dg dc311 19 rfl) rfl hf
    · refine ex_pu (ls' := [vR 0, vI v1, vI v2, vR 181, vU]) (st' := [vJ 1, vI 0, vR 181]) (dg dc311 7 rfl) rfl rfl ?_
      refine ex_goto (t := 16) (dg dc311 8 rfl) rfl rfl ?_
      refine ex_last (dg dc311 10 rfl) (LOC.st (Nat.le_of_ble_eq_true rfl) rfl) rfl rfl hf (fun _ hf => ?_)
      refine ex_gen hf (fun M_6 hM_7 hf => ?_)
      refine ex_goto (t := 28) (dg dc311 11 rfl) rfl rfl ?_
      refine ex_pu (ls' := [vR 0, vI v1, vI v2, vR 181, vU]) (st' := [vI 0]) (dg dc311 18 rfl) rfl rfl ?_
      exact ex_ire (dg dc311 19 rfl) rfl hf
  · refine ex_bif hf (fun hb hf => ?_) (fun _ hf => ?_)
    · obtain rfl := bq hb
      refine ex_hnd (vs := [vR 0, vI v1, vI v2]) (st' := [vI 0, vR 181]) (ci := 15) (g := 20) (k0 := 4) (g2 := 22) (Or.inr (Or.inl ⟨rfl, (dg dc311 5 rfl)⟩)) rfl rfl (fun _ hR => RK.calO hR rfl (rk1 (LOC.st (Nat.le_of_ble_eq_true rfl) rfl) rfl)) ⟨by decide, by decide⟩ (by decide +kernel) (Or.inr ⟨(dg dc311 12 rfl), rfl⟩) (blt_ok rfl) (gh_fits_ok (Z := Z) (d := e9) (by omega)  he_1) ?_
      show EX Z _ 311 22 [vR 0, vI v1, vI v2, vR 181, vU] [] M_2 res
      refine ex_pu (ls' := [vR 0, vI v1, vI v2, vR 181, vU]) (st' := [vI 1]) (dg dc311 13 rfl) rfl rfl ?_
      exact ex_ire (dg dc311 14 rfl) rfl hf
    · refine ex_bif hf (fun hb hf => ?_) (fun _ hf => ?_)
      · obtain rfl := bq hb
        refine ex_hnd (vs := [vR 0, vI v1, vI v2]) (st' := [vI 0, vR 181]) (ci := 14) (g := 24) (k0 := 4) (g2 := 26) (Or.inr (Or.inl ⟨rfl, (dg dc311 5 rfl)⟩)) rfl rfl (fun _ hR => RK.calO hR rfl (rk1 (LOC.st (Nat.le_of_ble_eq_true rfl) rfl) rfl)) ⟨by decide, by decide⟩ (by decide +kernel) (Or.inr ⟨(dg dc311 15 rfl), rfl⟩) (blt_ok rfl) (gh_fits_ok (Z := Z) (d := e9) (by omega)  he_1) ?_
        show EX Z _ 311 26 [vR 0, vI v1, vI v2, vR 181, vU] [] M_2 res
        refine ex_pu (ls' := [vR 0, vI v1, vI v2, vR 181, vU]) (st' := [vI 2]) (dg dc311 16 rfl) rfl rfl ?_
        exact ex_ire (dg dc311 17 rfl) rfl hf
      · cases hf
-- GlassHillLaw.delay
def il313 : List (Nat × Instr × Nat) := [(0, .aload_n 2, 1), (1, .iconst 0, 1), (2, .aload_n 0, 1), (3, .iload_n 1, 1), (4, .invokevirtual 53, 3), (7, .i2l, 1), (8, .lastore, 1), (9, .goto 9, 3), (12, .astore_n 3, 1), (13, .iconst 1, 1), (14, .ireturn, 1), (15, .astore_n 3, 1), (16, .iconst 2, 1), (17, .ireturn, 1), (18, .iconst 0, 1), (19, .ireturn, 1)]
theorem dc313 : dcs (mC 313) il313 := dc_of (by decide +kernel)
def drv_delay (v1 : Int) (M : MM) : OR :=
  (bH (gh_delay v1 M) (fun z_3 M_2 => (bif inB 0 1 then (sM (mU M_2 181 0 (w32 z_3)) fun M_4 => some (rI 0, M_4)) else none)) fun c_6 M_2 => (bif Nat.beq c_6 13 then some (rI 1, M_2) else (bif Nat.beq c_6 14 then some (rI 2, M_2) else none)))
set_option maxRecDepth 4000 in
theorem drv_delay_ok {Z : Nat × (Nat → Int)} {d : Nat} (hd : 5 ≤ d) {M : MM}  {v1 : Int} {res : AR × MM} (hf : drv_delay v1 M = some res) : EX Z d 313 0 (ent 313 [vR 0, vI v1, vR 181]) [] M res := by
  obtain ⟨e9, rfl⟩ : ∃ e9, d = e9 + 1 := ⟨d - 1, by omega⟩
  unfold drv_delay at hf
  show EX Z _ 313 0 [vR 0, vI v1, vR 181, vU] [] M res
  refine ex_pu (ls' := [vR 0, vI v1, vR 181, vU]) (st' := [vR 181]) (dg dc313 0 rfl) rfl rfl ?_
  refine ex_pu (ls' := [vR 0, vI v1, vR 181, vU]) (st' := [vI 0, vR 181]) (dg dc313 1 rfl) rfl rfl ?_
  refine ex_pu (ls' := [vR 0, vI v1, vR 181, vU]) (st' := [vR 0, vI 0, vR 181]) (dg dc313 2 rfl) rfl rfl ?_
  refine ex_pu (ls' := [vR 0, vI v1, vR 181, vU]) (st' := [vI v1, vR 0, vI 0, vR 181]) (dg dc313 3 rfl) rfl rfl ?_
  refine ex_cH (vs := [vR 0, vI v1]) (st' := [vI 0, vR 181]) (F := (gh_delay v1 M)) (Or.inr (Or.inl ⟨rfl, (dg dc313 4 rfl)⟩)) rfl rfl (rk1 (LOC.st (Nat.le_of_ble_eq_true rfl) rfl) rfl) (fun _ r9 => gh_delay_ok (Z := Z) (d := e9) (by omega)  r9) hf (fun z_3 M_2 he_1 hf => ?_) (fun c_6 M_2 he_1 hf => ?_)
  · refine ex_pu (ls' := [vR 0, vI v1, vR 181, vU]) (st' := [vJ (w32 z_3), vI 0, vR 181]) (dg dc313 5 rfl) rfl rfl ?_
    refine ex_last (dg dc313 6 rfl) (LOC.st (Nat.le_of_ble_eq_true rfl) rfl) rfl rfl hf (fun _ hf => ?_)
    refine ex_gen hf (fun M_4 hM_5 hf => ?_)
    refine ex_goto (t := 18) (dg dc313 7 rfl) rfl rfl ?_
    refine ex_pu (ls' := [vR 0, vI v1, vR 181, vU]) (st' := [vI 0]) (dg dc313 14 rfl) rfl rfl ?_
    exact ex_ire (dg dc313 15 rfl) rfl hf
  · refine ex_bif hf (fun hb hf => ?_) (fun _ hf => ?_)
    · obtain rfl := bq hb
      refine ex_hnd (vs := [vR 0, vI v1]) (st' := [vI 0, vR 181]) (ci := 13) (g := 12) (k0 := 3) (g2 := 13) (Or.inr (Or.inl ⟨rfl, (dg dc313 4 rfl)⟩)) rfl rfl (fun _ hR => RK.calO hR rfl (rk1 (LOC.st (Nat.le_of_ble_eq_true rfl) rfl) rfl)) ⟨by decide, by decide⟩ (by decide +kernel) (Or.inl ⟨3, rfl, (dg dc313 8 rfl), rfl⟩) (blt_ok rfl) (gh_delay_ok (Z := Z) (d := e9) (by omega)  he_1) ?_
      show EX Z _ 313 13 [vR 0, vI v1, vR 181, vU] [] M_2 res
      refine ex_pu (ls' := [vR 0, vI v1, vR 181, vU]) (st' := [vI 1]) (dg dc313 9 rfl) rfl rfl ?_
      exact ex_ire (dg dc313 10 rfl) rfl hf
    · refine ex_bif hf (fun hb hf => ?_) (fun _ hf => ?_)
      · obtain rfl := bq hb
        refine ex_hnd (vs := [vR 0, vI v1]) (st' := [vI 0, vR 181]) (ci := 14) (g := 15) (k0 := 3) (g2 := 16) (Or.inr (Or.inl ⟨rfl, (dg dc313 4 rfl)⟩)) rfl rfl (fun _ hR => RK.calO hR rfl (rk1 (LOC.st (Nat.le_of_ble_eq_true rfl) rfl) rfl)) ⟨by decide, by decide⟩ (by decide +kernel) (Or.inl ⟨3, rfl, (dg dc313 11 rfl), rfl⟩) (blt_ok rfl) (gh_delay_ok (Z := Z) (d := e9) (by omega)  he_1) ?_
        show EX Z _ 313 16 [vR 0, vI v1, vR 181, vU] [] M_2 res
        refine ex_pu (ls' := [vR 0, vI v1, vR 181, vU]) (st' := [vI 2]) (dg dc313 12 rfl) rfl rfl ?_
        exact ex_ire (dg dc313 13 rfl) rfl hf
      · cases hf
-- GlassHillLaw.lay
def il316 : List (Nat × Instr × Nat) := [(0, .aload_n 2, 1), (1, .iconst 0, 1), (2, .aload_n 0, 1), (3, .iload_n 1, 1), (4, .invokevirtual 62, 3), (7, .i2l, 1), (8, .lastore, 1), (9, .goto 9, 3), (12, .astore_n 3, 1), (13, .iconst 1, 1), (14, .ireturn, 1), (15, .astore_n 3, 1), (16, .iconst 2, 1), (17, .ireturn, 1), (18, .iconst 0, 1), (19, .ireturn, 1)]
theorem dc316 : dcs (mC 316) il316 := dc_of (by decide +kernel)
def drv_lay (v1 : Int) (M : MM) : OR :=
  (bH (gh_lay v1 M) (fun z_3 M_2 => (bif inB 0 1 then (sM (mU M_2 181 0 (w32 z_3)) fun M_4 => some (rI 0, M_4)) else none)) fun c_6 M_2 => (bif Nat.beq c_6 15 then some (rI 1, M_2) else (bif Nat.beq c_6 14 then some (rI 2, M_2) else none)))
set_option maxRecDepth 4000 in
theorem drv_lay_ok {Z : Nat × (Nat → Int)} {d : Nat} (hd : 5 ≤ d) {M : MM}  {v1 : Int} {res : AR × MM} (hf : drv_lay v1 M = some res) : EX Z d 316 0 (ent 316 [vR 0, vI v1, vR 181]) [] M res := by
  obtain ⟨e9, rfl⟩ : ∃ e9, d = e9 + 1 := ⟨d - 1, by omega⟩
  unfold drv_lay at hf
  show EX Z _ 316 0 [vR 0, vI v1, vR 181, vU] [] M res
  refine ex_pu (ls' := [vR 0, vI v1, vR 181, vU]) (st' := [vR 181]) (dg dc316 0 rfl) rfl rfl ?_
  refine ex_pu (ls' := [vR 0, vI v1, vR 181, vU]) (st' := [vI 0, vR 181]) (dg dc316 1 rfl) rfl rfl ?_
  refine ex_pu (ls' := [vR 0, vI v1, vR 181, vU]) (st' := [vR 0, vI 0, vR 181]) (dg dc316 2 rfl) rfl rfl ?_
  refine ex_pu (ls' := [vR 0, vI v1, vR 181, vU]) (st' := [vI v1, vR 0, vI 0, vR 181]) (dg dc316 3 rfl) rfl rfl ?_
  refine ex_cH (vs := [vR 0, vI v1]) (st' := [vI 0, vR 181]) (F := (gh_lay v1 M)) (Or.inr (Or.inl ⟨rfl, (dg dc316 4 rfl)⟩)) rfl rfl (rk1 (LOC.st (Nat.le_of_ble_eq_true rfl) rfl) rfl) (fun _ r9 => gh_lay_ok (Z := Z) (d := e9) (by omega)  r9) hf (fun z_3 M_2 he_1 hf => ?_) (fun c_6 M_2 he_1 hf => ?_)
  · refine ex_pu (ls' := [vR 0, vI v1, vR 181, vU]) (st' := [vJ (w32 z_3), vI 0, vR 181]) (dg dc316 5 rfl) rfl rfl ?_
    refine ex_last (dg dc316 6 rfl) (LOC.st (Nat.le_of_ble_eq_true rfl) rfl) rfl rfl hf (fun _ hf => ?_)
    refine ex_gen hf (fun M_4 hM_5 hf => ?_)
    refine ex_goto (t := 18) (dg dc316 7 rfl) rfl rfl ?_
    refine ex_pu (ls' := [vR 0, vI v1, vR 181, vU]) (st' := [vI 0]) (dg dc316 14 rfl) rfl rfl ?_
    exact ex_ire (dg dc316 15 rfl) rfl hf
  · refine ex_bif hf (fun hb hf => ?_) (fun _ hf => ?_)
    · obtain rfl := bq hb
      refine ex_hnd (vs := [vR 0, vI v1]) (st' := [vI 0, vR 181]) (ci := 15) (g := 12) (k0 := 3) (g2 := 13) (Or.inr (Or.inl ⟨rfl, (dg dc316 4 rfl)⟩)) rfl rfl (fun _ hR => RK.calO hR rfl (rk1 (LOC.st (Nat.le_of_ble_eq_true rfl) rfl) rfl)) ⟨by decide, by decide⟩ (by decide +kernel) (Or.inl ⟨3, rfl, (dg dc316 8 rfl), rfl⟩) (blt_ok rfl) (gh_lay_ok (Z := Z) (d := e9) (by omega)  he_1) ?_
      show EX Z _ 316 13 [vR 0, vI v1, vR 181, vU] [] M_2 res
      refine ex_pu (ls' := [vR 0, vI v1, vR 181, vU]) (st' := [vI 1]) (dg dc316 9 rfl) rfl rfl ?_
      exact ex_ire (dg dc316 10 rfl) rfl hf
    · refine ex_bif hf (fun hb hf => ?_) (fun _ hf => ?_)
      · obtain rfl := bq hb
        refine ex_hnd (vs := [vR 0, vI v1]) (st' := [vI 0, vR 181]) (ci := 14) (g := 15) (k0 := 3) (g2 := 16) (Or.inr (Or.inl ⟨rfl, (dg dc316 4 rfl)⟩)) rfl rfl (fun _ hR => RK.calO hR rfl (rk1 (LOC.st (Nat.le_of_ble_eq_true rfl) rfl) rfl)) ⟨by decide, by decide⟩ (by decide +kernel) (Or.inl ⟨3, rfl, (dg dc316 11 rfl), rfl⟩) (blt_ok rfl) (gh_lay_ok (Z := Z) (d := e9) (by omega)  he_1) ?_
        show EX Z _ 316 16 [vR 0, vI v1, vR 181, vU] [] M_2 res
        refine ex_pu (ls' := [vR 0, vI v1, vR 181, vU]) (st' := [vI 2]) (dg dc316 12 rfl) rfl rfl ?_
        exact ex_ire (dg dc316 13 rfl) rfl hf
      · cases hf
-- GlassHillLaw.free
def il317 : List (Nat × Instr × Nat) := [(0, .aload_n 2, 1), (1, .iconst 0, 1), (2, .aload_n 0, 1), (3, .iload_n 1, 1), (4, .invokevirtual 65, 3), (7, .i2l, 1), (8, .lastore, 1), (9, .goto 9, 3), (12, .astore_n 3, 1), (13, .iconst 1, 1), (14, .ireturn, 1), (15, .astore_n 3, 1), (16, .iconst 2, 1), (17, .ireturn, 1), (18, .iconst 0, 1), (19, .ireturn, 1)]
theorem dc317 : dcs (mC 317) il317 := dc_of (by decide +kernel)
def drv_free (v1 : Int) (M : MM) : OR :=
  (bH (gh_free v1 M) (fun z_3 M_2 => (bif inB 0 1 then (sM (mU M_2 181 0 (w32 z_3)) fun M_4 => some (rI 0, M_4)) else none)) fun c_6 M_2 => (bif Nat.beq c_6 15 then some (rI 1, M_2) else (bif Nat.beq c_6 14 then some (rI 2, M_2) else none)))
set_option maxRecDepth 4000 in
theorem drv_free_ok {Z : Nat × (Nat → Int)} {d : Nat} (hd : 5 ≤ d) {M : MM}  {v1 : Int} {res : AR × MM} (hf : drv_free v1 M = some res) : EX Z d 317 0 (ent 317 [vR 0, vI v1, vR 181]) [] M res := by
  obtain ⟨e9, rfl⟩ : ∃ e9, d = e9 + 1 := ⟨d - 1, by omega⟩
  unfold drv_free at hf
  show EX Z _ 317 0 [vR 0, vI v1, vR 181, vU] [] M res
  refine ex_pu (ls' := [vR 0, vI v1, vR 181, vU]) (st' := [vR 181]) (dg dc317 0 rfl) rfl rfl ?_
  refine ex_pu (ls' := [vR 0, vI v1, vR 181, vU]) (st' := [vI 0, vR 181]) (dg dc317 1 rfl) rfl rfl ?_
  refine ex_pu (ls' := [vR 0, vI v1, vR 181, vU]) (st' := [vR 0, vI 0, vR 181]) (dg dc317 2 rfl) rfl rfl ?_
  refine ex_pu (ls' := [vR 0, vI v1, vR 181, vU]) (st' := [vI v1, vR 0, vI 0, vR 181]) (dg dc317 3 rfl) rfl rfl ?_
  refine ex_cH (vs := [vR 0, vI v1]) (st' := [vI 0, vR 181]) (F := (gh_free v1 M)) (Or.inr (Or.inl ⟨rfl, (dg dc317 4 rfl)⟩)) rfl rfl (rk1 (LOC.st (Nat.le_of_ble_eq_true rfl) rfl) rfl) (fun _ r9 => gh_free_ok (Z := Z) (d := e9) (by omega)  r9) hf (fun z_3 M_2 he_1 hf => ?_) (fun c_6 M_2 he_1 hf => ?_)
  · refine ex_pu (ls' := [vR 0, vI v1, vR 181, vU]) (st' := [vJ (w32 z_3), vI 0, vR 181]) (dg dc317 5 rfl) rfl rfl ?_
    refine ex_last (dg dc317 6 rfl) (LOC.st (Nat.le_of_ble_eq_true rfl) rfl) rfl rfl hf (fun _ hf => ?_)
    refine ex_gen hf (fun M_4 hM_5 hf => ?_)
    refine ex_goto (t := 18) (dg dc317 7 rfl) rfl rfl ?_
    refine ex_pu (ls' := [vR 0, vI v1, vR 181, vU]) (st' := [vI 0]) (dg dc317 14 rfl) rfl rfl ?_
    exact ex_ire (dg dc317 15 rfl) rfl hf
  · refine ex_bif hf (fun hb hf => ?_) (fun _ hf => ?_)
    · obtain rfl := bq hb
      refine ex_hnd (vs := [vR 0, vI v1]) (st' := [vI 0, vR 181]) (ci := 15) (g := 12) (k0 := 3) (g2 := 13) (Or.inr (Or.inl ⟨rfl, (dg dc317 4 rfl)⟩)) rfl rfl (fun _ hR => RK.calO hR rfl (rk1 (LOC.st (Nat.le_of_ble_eq_true rfl) rfl) rfl)) ⟨by decide, by decide⟩ (by decide +kernel) (Or.inl ⟨3, rfl, (dg dc317 8 rfl), rfl⟩) (blt_ok rfl) (gh_free_ok (Z := Z) (d := e9) (by omega)  he_1) ?_
      show EX Z _ 317 13 [vR 0, vI v1, vR 181, vU] [] M_2 res
      refine ex_pu (ls' := [vR 0, vI v1, vR 181, vU]) (st' := [vI 1]) (dg dc317 9 rfl) rfl rfl ?_
      exact ex_ire (dg dc317 10 rfl) rfl hf
    · refine ex_bif hf (fun hb hf => ?_) (fun _ hf => ?_)
      · obtain rfl := bq hb
        refine ex_hnd (vs := [vR 0, vI v1]) (st' := [vI 0, vR 181]) (ci := 14) (g := 15) (k0 := 3) (g2 := 16) (Or.inr (Or.inl ⟨rfl, (dg dc317 4 rfl)⟩)) rfl rfl (fun _ hR => RK.calO hR rfl (rk1 (LOC.st (Nat.le_of_ble_eq_true rfl) rfl) rfl)) ⟨by decide, by decide⟩ (by decide +kernel) (Or.inl ⟨3, rfl, (dg dc317 11 rfl), rfl⟩) (blt_ok rfl) (gh_free_ok (Z := Z) (d := e9) (by omega)  he_1) ?_
        show EX Z _ 317 16 [vR 0, vI v1, vR 181, vU] [] M_2 res
        refine ex_pu (ls' := [vR 0, vI v1, vR 181, vU]) (st' := [vI 2]) (dg dc317 12 rfl) rfl rfl ?_
        exact ex_ire (dg dc317 13 rfl) rfl hf
      · cases hf
-- GlassHillLaw.far
def il323 : List (Nat × Instr × Nat) := [(0, .aload_n 3, 1), (1, .iconst 0, 1), (2, .aload_n 0, 1), (3, .iload_n 1, 1), (4, .iload_n 2, 1), (5, .invokevirtual 85, 3), (8, .i2l, 1), (9, .lastore, 1), (10, .goto 7, 3), (13, .astore 4, 2), (15, .iconst 1, 1), (16, .ireturn, 1), (17, .iconst 0, 1), (18, .ireturn, 1)]
theorem dc323 : dcs (mC 323) il323 := dc_of (by decide +kernel)
def drv_far (v1 : Int) (v2 : Int) (M : MM) : OR :=
  (bH (gh_far v1 v2 M) (fun z_3 M_2 => (bif inB 0 1 then (sM (mU M_2 181 0 (w32 z_3)) fun M_4 => some (rI 0, M_4)) else none)) fun c_6 M_2 => (bif Nat.beq c_6 15 then some (rI 1, M_2) else none))
set_option maxRecDepth 4000 in
theorem drv_far_ok {Z : Nat × (Nat → Int)} {d : Nat} (hd : 4 ≤ d) {M : MM}  {v1 v2 : Int} {res : AR × MM} (hf : drv_far v1 v2 M = some res) : EX Z d 323 0 (ent 323 [vR 0, vI v1, vI v2, vR 181]) [] M res := by
  obtain ⟨e9, rfl⟩ : ∃ e9, d = e9 + 1 := ⟨d - 1, by omega⟩
  unfold drv_far at hf
  show EX Z _ 323 0 [vR 0, vI v1, vI v2, vR 181, vU] [] M res
  refine ex_pu (ls' := [vR 0, vI v1, vI v2, vR 181, vU]) (st' := [vR 181]) (dg dc323 0 rfl) rfl rfl ?_
  refine ex_pu (ls' := [vR 0, vI v1, vI v2, vR 181, vU]) (st' := [vI 0, vR 181]) (dg dc323 1 rfl) rfl rfl ?_
  refine ex_pu (ls' := [vR 0, vI v1, vI v2, vR 181, vU]) (st' := [vR 0, vI 0, vR 181]) (dg dc323 2 rfl) rfl rfl ?_
  refine ex_pu (ls' := [vR 0, vI v1, vI v2, vR 181, vU]) (st' := [vI v1, vR 0, vI 0, vR 181]) (dg dc323 3 rfl) rfl rfl ?_
  refine ex_pu (ls' := [vR 0, vI v1, vI v2, vR 181, vU]) (st' := [vI v2, vI v1, vR 0, vI 0, vR 181]) (dg dc323 4 rfl) rfl rfl ?_
  refine ex_cH (vs := [vR 0, vI v1, vI v2]) (st' := [vI 0, vR 181]) (F := (gh_far v1 v2 M)) (Or.inr (Or.inl ⟨rfl, (dg dc323 5 rfl)⟩)) rfl rfl (rk1 (LOC.st (Nat.le_of_ble_eq_true rfl) rfl) rfl) (fun _ r9 => gh_far_ok (Z := Z) (d := e9) (by omega)  r9) hf (fun z_3 M_2 he_1 hf => ?_) (fun c_6 M_2 he_1 hf => ?_)
  · refine ex_pu (ls' := [vR 0, vI v1, vI v2, vR 181, vU]) (st' := [vJ (w32 z_3), vI 0, vR 181]) (dg dc323 6 rfl) rfl rfl ?_
    refine ex_last (dg dc323 7 rfl) (LOC.st (Nat.le_of_ble_eq_true rfl) rfl) rfl rfl hf (fun _ hf => ?_)
    refine ex_gen hf (fun M_4 hM_5 hf => ?_)
    refine ex_goto (t := 17) (dg dc323 8 rfl) rfl rfl ?_
    refine ex_pu (ls' := [vR 0, vI v1, vI v2, vR 181, vU]) (st' := [vI 0]) (dg dc323 12 rfl) rfl rfl ?_
    exact ex_ire (dg dc323 13 rfl) rfl hf
  · refine ex_bif hf (fun hb hf => ?_) (fun _ hf => ?_)
    · obtain rfl := bq hb
      refine ex_hnd (vs := [vR 0, vI v1, vI v2]) (st' := [vI 0, vR 181]) (ci := 15) (g := 13) (k0 := 4) (g2 := 15) (Or.inr (Or.inl ⟨rfl, (dg dc323 5 rfl)⟩)) rfl rfl (fun _ hR => RK.calO hR rfl (rk1 (LOC.st (Nat.le_of_ble_eq_true rfl) rfl) rfl)) ⟨by decide, by decide⟩ (by decide +kernel) (Or.inr ⟨(dg dc323 9 rfl), rfl⟩) (blt_ok rfl) (gh_far_ok (Z := Z) (d := e9) (by omega)  he_1) ?_
      show EX Z _ 323 15 [vR 0, vI v1, vI v2, vR 181, vU] [] M_2 res
      refine ex_pu (ls' := [vR 0, vI v1, vI v2, vR 181, vU]) (st' := [vI 1]) (dg dc323 10 rfl) rfl rfl ?_
      exact ex_ire (dg dc323 11 rfl) rfl hf
    · cases hf
-- GlassHillLaw.turnBack
def il324 : List (Nat × Instr × Nat) := [(0, .aload_n 2, 1), (1, .iconst 0, 1), (2, .aload_n 0, 1), (3, .iload_n 1, 1), (4, .invokevirtual 88, 3), (7, .i2l, 1), (8, .lastore, 1), (9, .goto 9, 3), (12, .astore_n 3, 1), (13, .iconst 1, 1), (14, .ireturn, 1), (15, .astore_n 3, 1), (16, .iconst 2, 1), (17, .ireturn, 1), (18, .iconst 0, 1), (19, .ireturn, 1)]
theorem dc324 : dcs (mC 324) il324 := dc_of (by decide +kernel)
def drv_turnBack (v1 : Int) (M : MM) : OR :=
  (bH (gh_turnBack v1 M) (fun z_3 M_2 => (bif inB 0 1 then (sM (mU M_2 181 0 (w32 z_3)) fun M_4 => some (rI 0, M_4)) else none)) fun c_6 M_2 => (bif Nat.beq c_6 13 then some (rI 1, M_2) else (bif Nat.beq c_6 14 then some (rI 2, M_2) else none)))
set_option maxRecDepth 4000 in
theorem drv_turnBack_ok {Z : Nat × (Nat → Int)} {d : Nat} (hd : 4 ≤ d) {M : MM}  {v1 : Int} {res : AR × MM} (hf : drv_turnBack v1 M = some res) : EX Z d 324 0 (ent 324 [vR 0, vI v1, vR 181]) [] M res := by
  obtain ⟨e9, rfl⟩ : ∃ e9, d = e9 + 1 := ⟨d - 1, by omega⟩
  unfold drv_turnBack at hf
  show EX Z _ 324 0 [vR 0, vI v1, vR 181, vU] [] M res
  refine ex_pu (ls' := [vR 0, vI v1, vR 181, vU]) (st' := [vR 181]) (dg dc324 0 rfl) rfl rfl ?_
  refine ex_pu (ls' := [vR 0, vI v1, vR 181, vU]) (st' := [vI 0, vR 181]) (dg dc324 1 rfl) rfl rfl ?_
  refine ex_pu (ls' := [vR 0, vI v1, vR 181, vU]) (st' := [vR 0, vI 0, vR 181]) (dg dc324 2 rfl) rfl rfl ?_
  refine ex_pu (ls' := [vR 0, vI v1, vR 181, vU]) (st' := [vI v1, vR 0, vI 0, vR 181]) (dg dc324 3 rfl) rfl rfl ?_
  refine ex_cH (vs := [vR 0, vI v1]) (st' := [vI 0, vR 181]) (F := (gh_turnBack v1 M)) (Or.inr (Or.inl ⟨rfl, (dg dc324 4 rfl)⟩)) rfl rfl (rk1 (LOC.st (Nat.le_of_ble_eq_true rfl) rfl) rfl) (fun _ r9 => gh_turnBack_ok (Z := Z) (d := e9) (by omega)  r9) hf (fun z_3 M_2 he_1 hf => ?_) (fun c_6 M_2 he_1 hf => ?_)
  · refine ex_pu (ls' := [vR 0, vI v1, vR 181, vU]) (st' := [vJ (w32 z_3), vI 0, vR 181]) (dg dc324 5 rfl) rfl rfl ?_
    refine ex_last (dg dc324 6 rfl) (LOC.st (Nat.le_of_ble_eq_true rfl) rfl) rfl rfl hf (fun _ hf => ?_)
    refine ex_gen hf (fun M_4 hM_5 hf => ?_)
    refine ex_goto (t := 18) (dg dc324 7 rfl) rfl rfl ?_
    refine ex_pu (ls' := [vR 0, vI v1, vR 181, vU]) (st' := [vI 0]) (dg dc324 14 rfl) rfl rfl ?_
    exact ex_ire (dg dc324 15 rfl) rfl hf
  · refine ex_bif hf (fun hb hf => ?_) (fun _ hf => ?_)
    · obtain rfl := bq hb
      refine ex_hnd (vs := [vR 0, vI v1]) (st' := [vI 0, vR 181]) (ci := 13) (g := 12) (k0 := 3) (g2 := 13) (Or.inr (Or.inl ⟨rfl, (dg dc324 4 rfl)⟩)) rfl rfl (fun _ hR => RK.calO hR rfl (rk1 (LOC.st (Nat.le_of_ble_eq_true rfl) rfl) rfl)) ⟨by decide, by decide⟩ (by decide +kernel) (Or.inl ⟨3, rfl, (dg dc324 8 rfl), rfl⟩) (blt_ok rfl) (gh_turnBack_ok (Z := Z) (d := e9) (by omega)  he_1) ?_
      show EX Z _ 324 13 [vR 0, vI v1, vR 181, vU] [] M_2 res
      refine ex_pu (ls' := [vR 0, vI v1, vR 181, vU]) (st' := [vI 1]) (dg dc324 9 rfl) rfl rfl ?_
      exact ex_ire (dg dc324 10 rfl) rfl hf
    · refine ex_bif hf (fun hb hf => ?_) (fun _ hf => ?_)
      · obtain rfl := bq hb
        refine ex_hnd (vs := [vR 0, vI v1]) (st' := [vI 0, vR 181]) (ci := 14) (g := 15) (k0 := 3) (g2 := 16) (Or.inr (Or.inl ⟨rfl, (dg dc324 4 rfl)⟩)) rfl rfl (fun _ hR => RK.calO hR rfl (rk1 (LOC.st (Nat.le_of_ble_eq_true rfl) rfl) rfl)) ⟨by decide, by decide⟩ (by decide +kernel) (Or.inl ⟨3, rfl, (dg dc324 11 rfl), rfl⟩) (blt_ok rfl) (gh_turnBack_ok (Z := Z) (d := e9) (by omega)  he_1) ?_
        show EX Z _ 324 16 [vR 0, vI v1, vR 181, vU] [] M_2 res
        refine ex_pu (ls' := [vR 0, vI v1, vR 181, vU]) (st' := [vI 2]) (dg dc324 12 rfl) rfl rfl ?_
        exact ex_ire (dg dc324 13 rfl) rfl hf
      · cases hf
-- GlassHillLaw.meet
def il325 : List (Nat × Instr × Nat) := [(0, .aload 4, 2), (2, .iconst 0, 1), (3, .aload_n 0, 1), (4, .iload_n 1, 1), (5, .iload_n 2, 1), (6, .iload_n 3, 1), (7, .invokevirtual 91, 3), (10, .i2l, 1), (11, .lastore, 1), (12, .goto 7, 3), (15, .astore 5, 2), (17, .iconst 1, 1), (18, .ireturn, 1), (19, .iconst 0, 1), (20, .ireturn, 1)]
theorem dc325 : dcs (mC 325) il325 := dc_of (by decide +kernel)
def drv_meet (v1 : Int) (v2 : Int) (v3 : Int) (M : MM) : OR :=
  (bH (gh_meet v1 v2 v3 M) (fun z_3 M_2 => (bif inB 0 1 then (sM (mU M_2 181 0 (w32 z_3)) fun M_4 => some (rI 0, M_4)) else none)) fun c_6 M_2 => (bif Nat.beq c_6 15 then some (rI 1, M_2) else none))
set_option maxRecDepth 4000 in
theorem drv_meet_ok {Z : Nat × (Nat → Int)} {d : Nat} (hd : 4 ≤ d) {M : MM}  {v1 v2 v3 : Int} {res : AR × MM} (hf : drv_meet v1 v2 v3 M = some res) : EX Z d 325 0 (ent 325 [vR 0, vI v1, vI v2, vI v3, vR 181]) [] M res := by
  obtain ⟨e9, rfl⟩ : ∃ e9, d = e9 + 1 := ⟨d - 1, by omega⟩
  unfold drv_meet at hf
  show EX Z _ 325 0 [vR 0, vI v1, vI v2, vI v3, vR 181, vU] [] M res
  refine ex_pu (ls' := [vR 0, vI v1, vI v2, vI v3, vR 181, vU]) (st' := [vR 181]) (dg dc325 0 rfl) rfl rfl ?_
  refine ex_pu (ls' := [vR 0, vI v1, vI v2, vI v3, vR 181, vU]) (st' := [vI 0, vR 181]) (dg dc325 1 rfl) rfl rfl ?_
  refine ex_pu (ls' := [vR 0, vI v1, vI v2, vI v3, vR 181, vU]) (st' := [vR 0, vI 0, vR 181]) (dg dc325 2 rfl) rfl rfl ?_
  refine ex_pu (ls' := [vR 0, vI v1, vI v2, vI v3, vR 181, vU]) (st' := [vI v1, vR 0, vI 0, vR 181]) (dg dc325 3 rfl) rfl rfl ?_
  refine ex_pu (ls' := [vR 0, vI v1, vI v2, vI v3, vR 181, vU]) (st' := [vI v2, vI v1, vR 0, vI 0, vR 181]) (dg dc325 4 rfl) rfl rfl ?_
  refine ex_pu (ls' := [vR 0, vI v1, vI v2, vI v3, vR 181, vU]) (st' := [vI v3, vI v2, vI v1, vR 0, vI 0, vR 181]) (dg dc325 5 rfl) rfl rfl ?_
  refine ex_cH (vs := [vR 0, vI v1, vI v2, vI v3]) (st' := [vI 0, vR 181]) (F := (gh_meet v1 v2 v3 M)) (Or.inr (Or.inl ⟨rfl, (dg dc325 6 rfl)⟩)) rfl rfl (rk1 (LOC.st (Nat.le_of_ble_eq_true rfl) rfl) rfl) (fun _ r9 => gh_meet_ok (Z := Z) (d := e9) (by omega)  r9) hf (fun z_3 M_2 he_1 hf => ?_) (fun c_6 M_2 he_1 hf => ?_)
  · refine ex_pu (ls' := [vR 0, vI v1, vI v2, vI v3, vR 181, vU]) (st' := [vJ (w32 z_3), vI 0, vR 181]) (dg dc325 7 rfl) rfl rfl ?_
    refine ex_last (dg dc325 8 rfl) (LOC.st (Nat.le_of_ble_eq_true rfl) rfl) rfl rfl hf (fun _ hf => ?_)
    refine ex_gen hf (fun M_4 hM_5 hf => ?_)
    refine ex_goto (t := 19) (dg dc325 9 rfl) rfl rfl ?_
    refine ex_pu (ls' := [vR 0, vI v1, vI v2, vI v3, vR 181, vU]) (st' := [vI 0]) (dg dc325 13 rfl) rfl rfl ?_
    exact ex_ire (dg dc325 14 rfl) rfl hf
  · refine ex_bif hf (fun hb hf => ?_) (fun _ hf => ?_)
    · obtain rfl := bq hb
      refine ex_hnd (vs := [vR 0, vI v1, vI v2, vI v3]) (st' := [vI 0, vR 181]) (ci := 15) (g := 15) (k0 := 5) (g2 := 17) (Or.inr (Or.inl ⟨rfl, (dg dc325 6 rfl)⟩)) rfl rfl (fun _ hR => RK.calO hR rfl (rk1 (LOC.st (Nat.le_of_ble_eq_true rfl) rfl) rfl)) ⟨by decide, by decide⟩ (by decide +kernel) (Or.inr ⟨(dg dc325 10 rfl), rfl⟩) (blt_ok rfl) (gh_meet_ok (Z := Z) (d := e9) (by omega)  he_1) ?_
      show EX Z _ 325 17 [vR 0, vI v1, vI v2, vI v3, vR 181, vU] [] M_2 res
      refine ex_pu (ls' := [vR 0, vI v1, vI v2, vI v3, vR 181, vU]) (st' := [vI 1]) (dg dc325 11 rfl) rfl rfl ?_
      exact ex_ire (dg dc325 12 rfl) rfl hf
    · cases hf
-- GlassHillLaw.surest
def il326 : List (Nat × Instr × Nat) := [(0, .aload_n 3, 1), (1, .iconst 0, 1), (2, .aload_n 0, 1), (3, .iload_n 1, 1), (4, .iload_n 2, 1), (5, .invokevirtual 95, 3), (8, .i2l, 1), (9, .lastore, 1), (10, .goto 7, 3), (13, .astore 4, 2), (15, .iconst 1, 1), (16, .ireturn, 1), (17, .iconst 0, 1), (18, .ireturn, 1)]
theorem dc326 : dcs (mC 326) il326 := dc_of (by decide +kernel)
def drv_surest (v1 : Int) (v2 : Int) (M : MM) : OR :=
  (bH (gh_surest v1 v2 M) (fun z_3 M_2 => (bif inB 0 1 then (sM (mU M_2 181 0 (w32 z_3)) fun M_4 => some (rI 0, M_4)) else none)) fun c_6 M_2 => (bif Nat.beq c_6 15 then some (rI 1, M_2) else none))
set_option maxRecDepth 4000 in
theorem drv_surest_ok {Z : Nat × (Nat → Int)} {d : Nat} (hd : 3 ≤ d) {M : MM}  {v1 v2 : Int} {res : AR × MM} (hf : drv_surest v1 v2 M = some res) : EX Z d 326 0 (ent 326 [vR 0, vI v1, vI v2, vR 181]) [] M res := by
  obtain ⟨e9, rfl⟩ : ∃ e9, d = e9 + 1 := ⟨d - 1, by omega⟩
  unfold drv_surest at hf
  show EX Z _ 326 0 [vR 0, vI v1, vI v2, vR 181, vU] [] M res
  refine ex_pu (ls' := [vR 0, vI v1, vI v2, vR 181, vU]) (st' := [vR 181]) (dg dc326 0 rfl) rfl rfl ?_
  refine ex_pu (ls' := [vR 0, vI v1, vI v2, vR 181, vU]) (st' := [vI 0, vR 181]) (dg dc326 1 rfl) rfl rfl ?_
  refine ex_pu (ls' := [vR 0, vI v1, vI v2, vR 181, vU]) (st' := [vR 0, vI 0, vR 181]) (dg dc326 2 rfl) rfl rfl ?_
  refine ex_pu (ls' := [vR 0, vI v1, vI v2, vR 181, vU]) (st' := [vI v1, vR 0, vI 0, vR 181]) (dg dc326 3 rfl) rfl rfl ?_
  refine ex_pu (ls' := [vR 0, vI v1, vI v2, vR 181, vU]) (st' := [vI v2, vI v1, vR 0, vI 0, vR 181]) (dg dc326 4 rfl) rfl rfl ?_
  refine ex_cH (vs := [vR 0, vI v1, vI v2]) (st' := [vI 0, vR 181]) (F := (gh_surest v1 v2 M)) (Or.inr (Or.inl ⟨rfl, (dg dc326 5 rfl)⟩)) rfl rfl (rk1 (LOC.st (Nat.le_of_ble_eq_true rfl) rfl) rfl) (fun _ r9 => gh_surest_ok (Z := Z) (d := e9) (by omega)  r9) hf (fun z_3 M_2 he_1 hf => ?_) (fun c_6 M_2 he_1 hf => ?_)
  · refine ex_pu (ls' := [vR 0, vI v1, vI v2, vR 181, vU]) (st' := [vJ (w32 z_3), vI 0, vR 181]) (dg dc326 6 rfl) rfl rfl ?_
    refine ex_last (dg dc326 7 rfl) (LOC.st (Nat.le_of_ble_eq_true rfl) rfl) rfl rfl hf (fun _ hf => ?_)
    refine ex_gen hf (fun M_4 hM_5 hf => ?_)
    refine ex_goto (t := 17) (dg dc326 8 rfl) rfl rfl ?_
    refine ex_pu (ls' := [vR 0, vI v1, vI v2, vR 181, vU]) (st' := [vI 0]) (dg dc326 12 rfl) rfl rfl ?_
    exact ex_ire (dg dc326 13 rfl) rfl hf
  · refine ex_bif hf (fun hb hf => ?_) (fun _ hf => ?_)
    · obtain rfl := bq hb
      refine ex_hnd (vs := [vR 0, vI v1, vI v2]) (st' := [vI 0, vR 181]) (ci := 15) (g := 13) (k0 := 4) (g2 := 15) (Or.inr (Or.inl ⟨rfl, (dg dc326 5 rfl)⟩)) rfl rfl (fun _ hR => RK.calO hR rfl (rk1 (LOC.st (Nat.le_of_ble_eq_true rfl) rfl) rfl)) ⟨by decide, by decide⟩ (by decide +kernel) (Or.inr ⟨(dg dc326 9 rfl), rfl⟩) (blt_ok rfl) (gh_surest_ok (Z := Z) (d := e9) (by omega)  he_1) ?_
      show EX Z _ 326 15 [vR 0, vI v1, vI v2, vR 181, vU] [] M_2 res
      refine ex_pu (ls' := [vR 0, vI v1, vI v2, vR 181, vU]) (st' := [vI 1]) (dg dc326 10 rfl) rfl rfl ?_
      exact ex_ire (dg dc326 11 rfl) rfl hf
    · cases hf
-- GlassHillLaw.locks
def il328 : List (Nat × Instr × Nat) := [(0, .aload_n 2, 1), (1, .iconst 0, 1), (2, .aload_n 0, 1), (3, .iload_n 1, 1), (4, .invokevirtual 101, 3), (7, .i2l, 1), (8, .lastore, 1), (9, .goto 6, 3), (12, .astore_n 3, 1), (13, .iconst 1, 1), (14, .ireturn, 1), (15, .iconst 0, 1), (16, .ireturn, 1)]
theorem dc328 : dcs (mC 328) il328 := dc_of (by decide +kernel)
def drv_locks (v1 : Int) (M : MM) : OR :=
  (bH (gh_locks v1 M) (fun z_3 M_2 => (bif inB 0 1 then (sM (mU M_2 181 0 (w32 z_3)) fun M_4 => some (rI 0, M_4)) else none)) fun c_6 M_2 => (bif Nat.beq c_6 13 then some (rI 1, M_2) else none))
set_option maxRecDepth 4000 in
theorem drv_locks_ok {Z : Nat × (Nat → Int)} {d : Nat} (hd : 3 ≤ d) {M : MM}  {v1 : Int} {res : AR × MM} (hf : drv_locks v1 M = some res) : EX Z d 328 0 (ent 328 [vR 0, vI v1, vR 181]) [] M res := by
  obtain ⟨e9, rfl⟩ : ∃ e9, d = e9 + 1 := ⟨d - 1, by omega⟩
  unfold drv_locks at hf
  show EX Z _ 328 0 [vR 0, vI v1, vR 181, vU] [] M res
  refine ex_pu (ls' := [vR 0, vI v1, vR 181, vU]) (st' := [vR 181]) (dg dc328 0 rfl) rfl rfl ?_
  refine ex_pu (ls' := [vR 0, vI v1, vR 181, vU]) (st' := [vI 0, vR 181]) (dg dc328 1 rfl) rfl rfl ?_
  refine ex_pu (ls' := [vR 0, vI v1, vR 181, vU]) (st' := [vR 0, vI 0, vR 181]) (dg dc328 2 rfl) rfl rfl ?_
  refine ex_pu (ls' := [vR 0, vI v1, vR 181, vU]) (st' := [vI v1, vR 0, vI 0, vR 181]) (dg dc328 3 rfl) rfl rfl ?_
  refine ex_cH (vs := [vR 0, vI v1]) (st' := [vI 0, vR 181]) (F := (gh_locks v1 M)) (Or.inr (Or.inl ⟨rfl, (dg dc328 4 rfl)⟩)) rfl rfl (rk1 (LOC.st (Nat.le_of_ble_eq_true rfl) rfl) rfl) (fun _ r9 => gh_locks_ok (Z := Z) (d := e9) (by omega)  r9) hf (fun z_3 M_2 he_1 hf => ?_) (fun c_6 M_2 he_1 hf => ?_)
  · refine ex_pu (ls' := [vR 0, vI v1, vR 181, vU]) (st' := [vJ (w32 z_3), vI 0, vR 181]) (dg dc328 5 rfl) rfl rfl ?_
    refine ex_last (dg dc328 6 rfl) (LOC.st (Nat.le_of_ble_eq_true rfl) rfl) rfl rfl hf (fun _ hf => ?_)
    refine ex_gen hf (fun M_4 hM_5 hf => ?_)
    refine ex_goto (t := 15) (dg dc328 7 rfl) rfl rfl ?_
    refine ex_pu (ls' := [vR 0, vI v1, vR 181, vU]) (st' := [vI 0]) (dg dc328 11 rfl) rfl rfl ?_
    exact ex_ire (dg dc328 12 rfl) rfl hf
  · refine ex_bif hf (fun hb hf => ?_) (fun _ hf => ?_)
    · obtain rfl := bq hb
      refine ex_hnd (vs := [vR 0, vI v1]) (st' := [vI 0, vR 181]) (ci := 13) (g := 12) (k0 := 3) (g2 := 13) (Or.inr (Or.inl ⟨rfl, (dg dc328 4 rfl)⟩)) rfl rfl (fun _ hR => RK.calO hR rfl (rk1 (LOC.st (Nat.le_of_ble_eq_true rfl) rfl) rfl)) ⟨by decide, by decide⟩ (by decide +kernel) (Or.inl ⟨3, rfl, (dg dc328 8 rfl), rfl⟩) (blt_ok rfl) (gh_locks_ok (Z := Z) (d := e9) (by omega)  he_1) ?_
      show EX Z _ 328 13 [vR 0, vI v1, vR 181, vU] [] M_2 res
      refine ex_pu (ls' := [vR 0, vI v1, vR 181, vU]) (st' := [vI 1]) (dg dc328 9 rfl) rfl rfl ?_
      exact ex_ire (dg dc328 10 rfl) rfl hf
    · cases hf
-- GlassHillLaw.sign
def il330 : List (Nat × Instr × Nat) := [(0, .aload_n 2, 1), (1, .iconst 0, 1), (2, .aload_n 0, 1), (3, .iload_n 1, 1), (4, .invokevirtual 108, 3), (7, .i2l, 1), (8, .lastore, 1), (9, .goto 6, 3), (12, .astore_n 3, 1), (13, .iconst 1, 1), (14, .ireturn, 1), (15, .iconst 0, 1), (16, .ireturn, 1)]
theorem dc330 : dcs (mC 330) il330 := dc_of (by decide +kernel)
def drv_sign (v1 : Int) (M : MM) : OR :=
  (bH (gh_sign v1 M) (fun z_3 M_2 => (bif inB 0 1 then (sM (mU M_2 181 0 (w32 z_3)) fun M_4 => some (rI 0, M_4)) else none)) fun c_6 M_2 => (bif Nat.beq c_6 15 then some (rI 1, M_2) else none))
set_option maxRecDepth 4000 in
theorem drv_sign_ok {Z : Nat × (Nat → Int)} {d : Nat} (hd : 4 ≤ d) {M : MM}  {v1 : Int} {res : AR × MM} (hf : drv_sign v1 M = some res) : EX Z d 330 0 (ent 330 [vR 0, vI v1, vR 181]) [] M res := by
  obtain ⟨e9, rfl⟩ : ∃ e9, d = e9 + 1 := ⟨d - 1, by omega⟩
  unfold drv_sign at hf
  show EX Z _ 330 0 [vR 0, vI v1, vR 181, vU] [] M res
  refine ex_pu (ls' := [vR 0, vI v1, vR 181, vU]) (st' := [vR 181]) (dg dc330 0 rfl) rfl rfl ?_
  refine ex_pu (ls' := [vR 0, vI v1, vR 181, vU]) (st' := [vI 0, vR 181]) (dg dc330 1 rfl) rfl rfl ?_
  refine ex_pu (ls' := [vR 0, vI v1, vR 181, vU]) (st' := [vR 0, vI 0, vR 181]) (dg dc330 2 rfl) rfl rfl ?_
  refine ex_pu (ls' := [vR 0, vI v1, vR 181, vU]) (st' := [vI v1, vR 0, vI 0, vR 181]) (dg dc330 3 rfl) rfl rfl ?_
  refine ex_cH (vs := [vR 0, vI v1]) (st' := [vI 0, vR 181]) (F := (gh_sign v1 M)) (Or.inr (Or.inl ⟨rfl, (dg dc330 4 rfl)⟩)) rfl rfl (rk1 (LOC.st (Nat.le_of_ble_eq_true rfl) rfl) rfl) (fun _ r9 => gh_sign_ok (Z := Z) (d := e9) (by omega)  r9) hf (fun z_3 M_2 he_1 hf => ?_) (fun c_6 M_2 he_1 hf => ?_)
  · refine ex_pu (ls' := [vR 0, vI v1, vR 181, vU]) (st' := [vJ (w32 z_3), vI 0, vR 181]) (dg dc330 5 rfl) rfl rfl ?_
    refine ex_last (dg dc330 6 rfl) (LOC.st (Nat.le_of_ble_eq_true rfl) rfl) rfl rfl hf (fun _ hf => ?_)
    refine ex_gen hf (fun M_4 hM_5 hf => ?_)
    refine ex_goto (t := 15) (dg dc330 7 rfl) rfl rfl ?_
    refine ex_pu (ls' := [vR 0, vI v1, vR 181, vU]) (st' := [vI 0]) (dg dc330 11 rfl) rfl rfl ?_
    exact ex_ire (dg dc330 12 rfl) rfl hf
  · refine ex_bif hf (fun hb hf => ?_) (fun _ hf => ?_)
    · obtain rfl := bq hb
      refine ex_hnd (vs := [vR 0, vI v1]) (st' := [vI 0, vR 181]) (ci := 15) (g := 12) (k0 := 3) (g2 := 13) (Or.inr (Or.inl ⟨rfl, (dg dc330 4 rfl)⟩)) rfl rfl (fun _ hR => RK.calO hR rfl (rk1 (LOC.st (Nat.le_of_ble_eq_true rfl) rfl) rfl)) ⟨by decide, by decide⟩ (by decide +kernel) (Or.inl ⟨3, rfl, (dg dc330 8 rfl), rfl⟩) (blt_ok rfl) (gh_sign_ok (Z := Z) (d := e9) (by omega)  he_1) ?_
      show EX Z _ 330 13 [vR 0, vI v1, vR 181, vU] [] M_2 res
      refine ex_pu (ls' := [vR 0, vI v1, vR 181, vU]) (st' := [vI 1]) (dg dc330 9 rfl) rfl rfl ?_
      exact ex_ire (dg dc330 10 rfl) rfl hf
    · cases hf
-- GlassHill$Journey.receive
def il6 : List (Nat × Instr × Nat) := [(0, .aload_n 0, 1), (1, .dup, 1), (2, .getfield 27, 3), (5, .iconst 1, 1), (6, .iload_n 1, 1), (7, .ishl, 1), (8, .iconst (-1), 1), (9, .ixor, 1), (10, .iand, 1), (11, .putfield 27, 3), (14, .aload_n 0, 1), (15, .getfield 21, 3), (18, .invokestatic 75, 3), (21, .ifCond .eq 15, 3), (24, .aload_n 0, 1), (25, .dup, 1), (26, .getfield 21, 3), (29, .iconst 1, 1), (30, .iload_n 1, 1), (31, .ishl, 1), (32, .ior, 1), (33, .putfield 21, 3), (36, .return_, 1)]
theorem dc6 : dcs (mC 6) il6 := dc_of (by decide +kernel)
def jny_receive (a : Nat) (v1 : Int) (M : MM) : OR :=
  (sM (mU M a 5 (iAnd (M a 5) (iXor (iShl 1 v1) (-1)))) fun M_1 => (bI (gh_hasRoom (M_1 a 3) M_1) fun z_5 M_4 => (bif cmpB .eq z_5 0 then some (rV, M_4) else (sM (mU M_4 a 3 (iOr (M_4 a 3) (iShl 1 v1))) fun M_6 => some (rV, M_6)))))
set_option maxRecDepth 4000 in
theorem jny_receive_ok {Z : Nat × (Nat → Int)} {d : Nat} (hd : 2 ≤ d) {M : MM} {a : Nat} (ha : isJny a) {v1 : Int} {res : AR × MM} (hf : jny_receive a v1 M = some res) : EX Z d 6 0 (ent 6 [vR a, vI v1]) [] M res := by
  obtain ⟨e9, rfl⟩ : ∃ e9, d = e9 + 1 := ⟨d - 1, by omega⟩
  unfold jny_receive at hf
  show EX Z _ 6 0 [vR a, vI v1] [] M res
  refine ex_pu (ls' := [vR a, vI v1]) (st' := [vR a]) (dg dc6 0 rfl) rfl rfl ?_
  refine ex_pu (ls' := [vR a, vI v1]) (st' := [vR a, vR a]) (dg dc6 1 rfl) rfl rfl ?_
  refine ex_getI (dg dc6 2 rfl) rfl (locJny0 ha) rfl ?_
  refine ex_pu (ls' := [vR a, vI v1]) (st' := [vI 1, vI (M a 5), vR a]) (dg dc6 3 rfl) rfl rfl ?_
  refine ex_pu (ls' := [vR a, vI v1]) (st' := [vI v1, vI 1, vI (M a 5), vR a]) (dg dc6 4 rfl) rfl rfl ?_
  refine ex_pu (ls' := [vR a, vI v1]) (st' := [vI (iShl 1 v1), vI (M a 5), vR a]) (dg dc6 5 rfl) rfl rfl ?_
  refine ex_pu (ls' := [vR a, vI v1]) (st' := [vI (-1), vI (iShl 1 v1), vI (M a 5), vR a]) (dg dc6 6 rfl) rfl rfl ?_
  refine ex_pu (ls' := [vR a, vI v1]) (st' := [vI (iXor (iShl 1 v1) (-1)), vI (M a 5), vR a]) (dg dc6 7 rfl) rfl rfl ?_
  refine ex_pu (ls' := [vR a, vI v1]) (st' := [vI (iAnd (M a 5) (iXor (iShl 1 v1) (-1))), vR a]) (dg dc6 8 rfl) rfl rfl ?_
  refine ex_putI (dg dc6 9 rfl) rfl (locJny0 ha) rfl rfl (ne17_Jny ha) ?_
  refine ex_gen hf (fun M_1 hM_2 hf => ?_)
  refine ex_pu (ls' := [vR a, vI v1]) (st' := [vR a]) (dg dc6 10 rfl) rfl rfl ?_
  refine ex_getI (dg dc6 11 rfl) rfl (locJny0 ha) rfl ?_
  refine ex_cI (vs := [vI (M_1 a 3)]) (st' := []) (F := (gh_hasRoom (M_1 a 3) M_1)) (Or.inl ⟨rfl, (dg dc6 12 rfl)⟩) rfl rfl (Or.inl rfl) rfl (fun _ r9 => gh_hasRoom_ok (Z := Z) (d := e9) (by omega)  r9) hf (fun z_5 M_4 he_3 hf => ?_)
  refine ex_if (t := 36) (dg dc6 13 rfl) rfl hf (fun _ hf => ?_) (fun _ hf => ?_)
  · exact ex_vre (dg dc6 22 rfl) rfl hf
  · refine ex_pu (ls' := [vR a, vI v1]) (st' := [vR a]) (dg dc6 14 rfl) rfl rfl ?_
    refine ex_pu (ls' := [vR a, vI v1]) (st' := [vR a, vR a]) (dg dc6 15 rfl) rfl rfl ?_
    refine ex_getI (dg dc6 16 rfl) rfl (locJny0 ha) rfl ?_
    refine ex_pu (ls' := [vR a, vI v1]) (st' := [vI 1, vI (M_4 a 3), vR a]) (dg dc6 17 rfl) rfl rfl ?_
    refine ex_pu (ls' := [vR a, vI v1]) (st' := [vI v1, vI 1, vI (M_4 a 3), vR a]) (dg dc6 18 rfl) rfl rfl ?_
    refine ex_pu (ls' := [vR a, vI v1]) (st' := [vI (iShl 1 v1), vI (M_4 a 3), vR a]) (dg dc6 19 rfl) rfl rfl ?_
    refine ex_pu (ls' := [vR a, vI v1]) (st' := [vI (iOr (M_4 a 3) (iShl 1 v1)), vR a]) (dg dc6 20 rfl) rfl rfl ?_
    refine ex_putI (dg dc6 21 rfl) rfl (locJny0 ha) rfl rfl (ne17_Jny ha) ?_
    refine ex_gen hf (fun M_6 hM_7 hf => ?_)
    exact ex_vre (dg dc6 22 rfl) rfl hf
-- GlassHill$LawReader.readAll
def il31 : List (Nat × Instr × Nat) := [(0, .aload_n 0, 1), (1, .iload_n 1, 1), (2, .invokevirtual 82, 3), (5, .iconst 0, 1), (6, .istore_n 2, 1), (7, .iload_n 2, 1), (8, .sipush 400, 3), (11, .if_icmp .ge 36, 3), (14, .aload_n 0, 1), (15, .getfield 9, 3), (18, .ldc 85, 2), (20, .invokevirtual 53, 3), (23, .ifCond .eq 24, 3), (26, .aload_n 0, 1), (27, .iload_n 1, 1), (28, .invokevirtual 82, 3), (31, .aload_n 0, 1), (32, .getfield 15, 3), (35, .sipush 1009, 3), (38, .invokevirtual 79, 3), (41, .iinc 2 1, 3), (44, .goto (-37), 3), (47, .return_, 1)]
theorem dc31 : dcs (mC 31) il31 := dc_of (by decide +kernel)
def lawr_readAll_L7 (R : Int → MM → OR)  (v1 : Int) (K1 : MM → OR) : Nat → Int → MM → OR
  | 0, _, _ => none
  | n + 1, v2, M => (bif cmpB .ge v2 400 then (K1  M) else (bI (tape_tookWord 30 M) fun z_6 M_5 => (bif cmpB .eq z_6 0 then (K1  M_5) else (bV (R v1 M_5) fun M_8 => (bV (law_append 43 1009 M_8) fun M_11 => (lawr_readAll_L7 R v1 K1 n (v2 + 1) M_11))))))
set_option maxRecDepth 4000 in
theorem lawr_readAll_L7_ok {Z : Nat × (Nat → Int)} {d : Nat} (hd : 5 ≤ d)  {E9 : Nat} (hE : E9 + 1 ≤ d) {R : Int → MM → OR} (hR : ∀ {e : Nat}, E9 ≤ e → ∀ {u0 : Int} {M : MM} {r : AR × MM}, R u0 M = some r → EX Z e 32 0 (ent 32 [vR 82, vI u0]) [] M r) {v1 : Int} {K1 : MM → OR} {res : AR × MM} (k1 : ∀ (M : MM) (j0 j1 j2 : AV), K1  M = some res → EX Z d 31 47 [j0, j1, j2] [] M res) : ∀ (n : Nat) (v2 : Int) (M : MM), lawr_readAll_L7 R v1 K1 n v2 M = some res → EX Z d 31 7 [vR 82, vI v1, vI v2] [] M res := by
  obtain ⟨e9, rfl⟩ : ∃ e9, d = e9 + 1 := ⟨d - 1, by omega⟩
  intro n
  induction n with
  | zero =>
    intro v2 M hf
    unfold lawr_readAll_L7 at hf
    cases hf
  | succ n ih =>
    intro v2 M hf
    unfold lawr_readAll_L7 at hf
    refine ex_pu (ls' := [vR 82, vI v1, vI v2]) (st' := [vI v2]) (dg dc31 5 rfl) rfl rfl ?_
    refine ex_pu (ls' := [vR 82, vI v1, vI v2]) (st' := [vI 400, vI v2]) (dg dc31 6 rfl) rfl rfl ?_
    refine ex_icmp (t := 47) (dg dc31 7 rfl) rfl hf (fun _ hf => ?_) (fun _ hf => ?_)
    · exact k1  M _ _ _ hf
    · refine ex_pu (ls' := [vR 82, vI v1, vI v2]) (st' := [vR 82]) (dg dc31 8 rfl) rfl rfl ?_
      refine ex_getF (dg dc31 9 rfl) rfl (LOC.st (Nat.le_of_ble_eq_true rfl) rfl) rfl ?_
      refine ex_ldcT (dg dc31 10 rfl) rfl ?_
      refine ex_cI (vs := [vR 1, vR (E0 + 2 + 2 * 30)]) (st' := []) (F := (tape_tookWord 30 M)) (Or.inr (Or.inl ⟨rfl, (dg dc31 11 rfl)⟩)) rfl rfl (rk1 (LOC.st (Nat.le_of_ble_eq_true rfl) rfl) rfl) rfl (fun _ r9 => tape_tookWord_ok (Z := Z) (d := e9) (by omega) (by decide)  r9) hf (fun z_6 M_5 he_4 hf => ?_)
      refine ex_if (t := 47) (dg dc31 12 rfl) rfl hf (fun _ hf => ?_) (fun _ hf => ?_)
      · exact k1  M_5 _ _ _ hf
      · refine ex_pu (ls' := [vR 82, vI v1, vI v2]) (st' := [vR 82]) (dg dc31 13 rfl) rfl rfl ?_
        refine ex_pu (ls' := [vR 82, vI v1, vI v2]) (st' := [vI v1, vR 82]) (dg dc31 14 rfl) rfl rfl ?_
        refine ex_cV (vs := [vR 82, vI v1]) (st' := []) (F := (R v1 M_5)) (Or.inr (Or.inl ⟨rfl, (dg dc31 15 rfl)⟩)) rfl rfl (rk1 (LOC.st (Nat.le_of_ble_eq_true rfl) rfl) rfl) rfl (fun _ r9 => hR (by omega) r9) hf (fun M_8 he_7 hf => ?_)
        refine ex_pu (ls' := [vR 82, vI v1, vI v2]) (st' := [vR 82]) (dg dc31 16 rfl) rfl rfl ?_
        refine ex_getF (dg dc31 17 rfl) rfl (LOC.st (Nat.le_of_ble_eq_true rfl) rfl) rfl ?_
        refine ex_pu (ls' := [vR 82, vI v1, vI v2]) (st' := [vI 1009, vR 43]) (dg dc31 18 rfl) rfl rfl ?_
        refine ex_cV (vs := [vR 43, vI 1009]) (st' := []) (F := (law_append 43 1009 M_8)) (Or.inr (Or.inl ⟨rfl, (dg dc31 19 rfl)⟩)) rfl rfl (rk1 (LOC.st (Nat.le_of_ble_eq_true rfl) rfl) rfl) rfl (fun _ r9 => law_append_ok (Z := Z) (d := e9) (by omega) isLaw43  r9) hf (fun M_11 he_10 hf => ?_)
        refine ex_pu (ls' := [vR 82, vI v1, vI (v2 + 1)]) (st' := []) (dg dc31 20 rfl) rfl rfl ?_
        refine ex_goto (t := 7) (dg dc31 21 rfl) rfl rfl ?_
        exact ih (v2 + 1) M_11 hf
def lawr_readAll (R : Int → MM → OR) (v1 : Int) (M : MM) : OR :=
  (bV (R v1 M) fun M_2 => (lawr_readAll_L7 R v1 (fun M_13 => some (rV, M_13)) FU 0 M_2))
set_option maxRecDepth 4000 in
theorem lawr_readAll_ok {Z : Nat × (Nat → Int)} {d : Nat} (hd : 5 ≤ d) {E9 : Nat} (hE : E9 + 1 ≤ d) {R : Int → MM → OR} (hR : ∀ {e : Nat}, E9 ≤ e → ∀ {u0 : Int} {M : MM} {r : AR × MM}, R u0 M = some r → EX Z e 32 0 (ent 32 [vR 82, vI u0]) [] M r) {M : MM}  {v1 : Int} {res : AR × MM} (hf : lawr_readAll R v1 M = some res) : EX Z d 31 0 (ent 31 [vR 82, vI v1]) [] M res := by
  obtain ⟨e9, rfl⟩ : ∃ e9, d = e9 + 1 := ⟨d - 1, by omega⟩
  unfold lawr_readAll at hf
  show EX Z _ 31 0 [vR 82, vI v1, vU] [] M res
  refine ex_pu (ls' := [vR 82, vI v1, vU]) (st' := [vR 82]) (dg dc31 0 rfl) rfl rfl ?_
  refine ex_pu (ls' := [vR 82, vI v1, vU]) (st' := [vI v1, vR 82]) (dg dc31 1 rfl) rfl rfl ?_
  refine ex_cV (vs := [vR 82, vI v1]) (st' := []) (F := (R v1 M)) (Or.inr (Or.inl ⟨rfl, (dg dc31 2 rfl)⟩)) rfl rfl (rk1 (LOC.st (Nat.le_of_ble_eq_true rfl) rfl) rfl) rfl (fun _ r9 => hR (by omega) r9) hf (fun M_2 he_1 hf => ?_)
  refine ex_pu (ls' := [vR 82, vI v1, vU]) (st' := [vI 0]) (dg dc31 3 rfl) rfl rfl ?_
  refine ex_pu (ls' := [vR 82, vI v1, vI 0]) (st' := []) (dg dc31 4 rfl) rfl rfl ?_
  refine lawr_readAll_L7_ok hd hE hR ?_ FU 0 M_2 hf
  · intro M_13 j0_14 j1_15 j2_16 hf
    exact ex_vre (dg dc31 22 rfl) rfl hf
-- GlassHill$LawReader.readComparison
def il34 : List (Nat × Instr × Nat) := [(0, .aload_n 0, 1), (1, .getfield 9, 3), (4, .bipush 60, 2), (6, .invokevirtual 44, 3), (9, .ifCond .eq 7, 3), (12, .sipush 1012, 3), (15, .ireturn, 1), (16, .aload_n 0, 1), (17, .getfield 9, 3), (20, .bipush 62, 2), (22, .invokevirtual 44, 3), (25, .ifCond .ne 10, 3), (28, .aload_n 0, 1), (29, .getfield 9, 3), (32, .invokevirtual 37, 3), (35, .sipush 1013, 3), (38, .ireturn, 1)]
theorem dc34 : dcs (mC 34) il34 := dc_of (by decide +kernel)
def lawr_readComparison  (M : MM) : OR :=
  (bI (tape_tookMark 60 M) fun z_3 M_2 => (bif cmpB .eq z_3 0 then (bI (tape_tookMark 62 M_2) fun z_6 M_5 => (bif cmpB .ne z_6 0 then some (rI 1013, M_5) else (bV (tape_fail  M_5) fun M_8 => some (rI 1013, M_8)))) else some (rI 1012, M_2)))
set_option maxRecDepth 4000 in
theorem lawr_readComparison_ok {Z : Nat × (Nat → Int)} {d : Nat} (hd : 2 ≤ d) {M : MM}  {res : AR × MM} (hf : lawr_readComparison  M = some res) : EX Z d 34 0 (ent 34 [vR 82]) [] M res := by
  obtain ⟨e9, rfl⟩ : ∃ e9, d = e9 + 1 := ⟨d - 1, by omega⟩
  unfold lawr_readComparison at hf
  show EX Z _ 34 0 [vR 82] [] M res
  refine ex_pu (ls' := [vR 82]) (st' := [vR 82]) (dg dc34 0 rfl) rfl rfl ?_
  refine ex_getF (dg dc34 1 rfl) rfl (LOC.st (Nat.le_of_ble_eq_true rfl) rfl) rfl ?_
  refine ex_pu (ls' := [vR 82]) (st' := [vI 60, vR 1]) (dg dc34 2 rfl) rfl rfl ?_
  refine ex_cI (vs := [vR 1, vI 60]) (st' := []) (F := (tape_tookMark 60 M)) (Or.inr (Or.inl ⟨rfl, (dg dc34 3 rfl)⟩)) rfl rfl (rk1 (LOC.st (Nat.le_of_ble_eq_true rfl) rfl) rfl) rfl (fun _ r9 => tape_tookMark_ok (Z := Z) (d := e9) (by omega)  r9) hf (fun z_3 M_2 he_1 hf => ?_)
  refine ex_if (t := 16) (dg dc34 4 rfl) rfl hf (fun _ hf => ?_) (fun _ hf => ?_)
  · refine ex_pu (ls' := [vR 82]) (st' := [vR 82]) (dg dc34 7 rfl) rfl rfl ?_
    refine ex_getF (dg dc34 8 rfl) rfl (LOC.st (Nat.le_of_ble_eq_true rfl) rfl) rfl ?_
    refine ex_pu (ls' := [vR 82]) (st' := [vI 62, vR 1]) (dg dc34 9 rfl) rfl rfl ?_
    refine ex_cI (vs := [vR 1, vI 62]) (st' := []) (F := (tape_tookMark 62 M_2)) (Or.inr (Or.inl ⟨rfl, (dg dc34 10 rfl)⟩)) rfl rfl (rk1 (LOC.st (Nat.le_of_ble_eq_true rfl) rfl) rfl) rfl (fun _ r9 => tape_tookMark_ok (Z := Z) (d := e9) (by omega)  r9) hf (fun z_6 M_5 he_4 hf => ?_)
    refine ex_if (t := 35) (dg dc34 11 rfl) rfl hf (fun _ hf => ?_) (fun _ hf => ?_)
    · refine ex_pu (ls' := [vR 82]) (st' := [vI 1013]) (dg dc34 15 rfl) rfl rfl ?_
      exact ex_ire (dg dc34 16 rfl) rfl hf
    · refine ex_pu (ls' := [vR 82]) (st' := [vR 82]) (dg dc34 12 rfl) rfl rfl ?_
      refine ex_getF (dg dc34 13 rfl) rfl (LOC.st (Nat.le_of_ble_eq_true rfl) rfl) rfl ?_
      refine ex_cV (vs := [vR 1]) (st' := []) (F := (tape_fail  M_5)) (Or.inr (Or.inl ⟨rfl, (dg dc34 14 rfl)⟩)) rfl rfl (rk1 (LOC.st (Nat.le_of_ble_eq_true rfl) rfl) rfl) rfl (fun _ r9 => tape_fail_ok (Z := Z) (d := e9) (by omega)  r9) hf (fun M_8 he_7 hf => ?_)
      refine ex_pu (ls' := [vR 82]) (st' := [vI 1013]) (dg dc34 15 rfl) rfl rfl ?_
      exact ex_ire (dg dc34 16 rfl) rfl hf
  · refine ex_pu (ls' := [vR 82]) (st' := [vI 1012]) (dg dc34 5 rfl) rfl rfl ?_
    exact ex_ire (dg dc34 6 rfl) rfl hf
-- GlassHill$LawReader.readPart
def il36 : List (Nat × Instr × Nat) := [(0, .aload_n 0, 1), (1, .getfield 9, 3), (4, .invokevirtual 111, 3), (7, .ifCond .eq 24, 3), (10, .aload_n 0, 1), (11, .getfield 15, 3), (14, .aload_n 0, 1), (15, .getfield 9, 3), (18, .iconst 0, 1), (19, .sipush 999, 3), (22, .invokevirtual 62, 3), (25, .invokevirtual 79, 3), (28, .goto 185, 3), (31, .aload_n 0, 1), (32, .getfield 9, 3), (35, .ldc 114, 2), (37, .invokevirtual 53, 3), (40, .ifCond .eq 16, 3), (43, .aload_n 0, 1), (44, .getfield 15, 3), (47, .sipush 1000, 3), (50, .invokevirtual 79, 3), (53, .goto 160, 3), (56, .aload_n 0, 1), (57, .getfield 9, 3), (60, .ldc 116, 2), (62, .invokevirtual 53, 3), (65, .ifCond .eq 16, 3), (68, .aload_n 0, 1), (69, .getfield 15, 3), (72, .sipush 1001, 3), (75, .invokevirtual 79, 3), (78, .goto 135, 3), (81, .aload_n 0, 1), (82, .getfield 9, 3), (85, .ldc 118, 2), (87, .invokevirtual 53, 3), (90, .ifCond .eq 16, 3), (93, .aload_n 0, 1), (94, .getfield 15, 3), (97, .sipush 1002, 3), (100, .invokevirtual 79, 3), (103, .goto 110, 3), (106, .aload_n 0, 1), (107, .getfield 9, 3), (110, .ldc 120, 2), (112, .invokevirtual 53, 3), (115, .ifCond .eq 16, 3), (118, .aload_n 0, 1), (119, .getfield 15, 3), (122, .sipush 1003, 3), (125, .invokevirtual 79, 3), (128, .goto 85, 3), (131, .aload_n 0, 1), (132, .getfield 9, 3), (135, .ldc 122, 2), (137, .invokevirtual 53, 3), (140, .ifCond .eq 16, 3), (143, .aload_n 0, 1), (144, .getfield 15, 3), (147, .sipush 1004, 3), (150, .invokevirtual 79, 3), (153, .goto 60, 3), (156, .aload_n 0, 1), (157, .getfield 9, 3), (160, .ldc 124, 2), (162, .invokevirtual 53, 3), (165, .ifCond .eq 16, 3), (168, .aload_n 0, 1), (169, .getfield 15, 3), (172, .sipush 1005, 3), (175, .invokevirtual 79, 3), (178, .goto 35, 3), (181, .aload_n 0, 1), (182, .getfield 9, 3), (185, .ldc 126, 2), (187, .invokevirtual 53, 3), (190, .ifCond .eq 16, 3), (193, .aload_n 0, 1), (194, .getfield 15, 3), (197, .sipush 1006, 3), (200, .invokevirtual 79, 3), (203, .goto 10, 3), (206, .aload_n 0, 1), (207, .getfield 9, 3), (210, .invokevirtual 37, 3), (213, .return_, 1)]
theorem dc36 : dcs (mC 36) il36 := dc_of (by decide +kernel)
def lawr_readPart  (M : MM) : OR :=
  (bI (tape_nextIsDigit  M) fun z_3 M_2 => (bif cmpB .eq z_3 0 then (bI (tape_tookWord 23 M_2) fun z_6 M_5 => (bif cmpB .eq z_6 0 then (bI (tape_tookWord 24 M_5) fun z_9 M_8 => (bif cmpB .eq z_9 0 then (bI (tape_tookWord 25 M_8) fun z_12 M_11 => (bif cmpB .eq z_12 0 then (bI (tape_tookWord 26 M_11) fun z_15 M_14 => (bif cmpB .eq z_15 0 then (bI (tape_tookWord 27 M_14) fun z_18 M_17 => (bif cmpB .eq z_18 0 then (bI (tape_tookWord 28 M_17) fun z_21 M_20 => (bif cmpB .eq z_21 0 then (bI (tape_tookWord 29 M_20) fun z_24 M_23 => (bif cmpB .eq z_24 0 then (bV (tape_fail  M_23) fun M_26 => some (rV, M_26)) else (bV (law_append 43 1006 M_23) fun M_29 => some (rV, M_29)))) else (bV (law_append 43 1005 M_20) fun M_32 => some (rV, M_32)))) else (bV (law_append 43 1004 M_17) fun M_35 => some (rV, M_35)))) else (bV (law_append 43 1003 M_14) fun M_38 => some (rV, M_38)))) else (bV (law_append 43 1002 M_11) fun M_41 => some (rV, M_41)))) else (bV (law_append 43 1001 M_8) fun M_44 => some (rV, M_44)))) else (bV (law_append 43 1000 M_5) fun M_47 => some (rV, M_47)))) else (bI (tape_needNumber 0 999 M_2) fun z_51 M_50 => (bV (law_append 43 z_51 M_50) fun M_53 => some (rV, M_53)))))
set_option maxRecDepth 4000 in
theorem lawr_readPart_ok {Z : Nat × (Nat → Int)} {d : Nat} (hd : 5 ≤ d) {M : MM}  {res : AR × MM} (hf : lawr_readPart  M = some res) : EX Z d 36 0 (ent 36 [vR 82]) [] M res := by
  obtain ⟨e9, rfl⟩ : ∃ e9, d = e9 + 1 := ⟨d - 1, by omega⟩
  unfold lawr_readPart at hf
  show EX Z _ 36 0 [vR 82] [] M res
  refine ex_pu (ls' := [vR 82]) (st' := [vR 82]) (dg dc36 0 rfl) rfl rfl ?_
  refine ex_getF (dg dc36 1 rfl) rfl (LOC.st (Nat.le_of_ble_eq_true rfl) rfl) rfl ?_
  refine ex_cI (vs := [vR 1]) (st' := []) (F := (tape_nextIsDigit  M)) (Or.inr (Or.inl ⟨rfl, (dg dc36 2 rfl)⟩)) rfl rfl (rk1 (LOC.st (Nat.le_of_ble_eq_true rfl) rfl) rfl) rfl (fun _ r9 => tape_nextIsDigit_ok (Z := Z) (d := e9) (by omega)  r9) hf (fun z_3 M_2 he_1 hf => ?_)
  refine ex_if (t := 31) (dg dc36 3 rfl) rfl hf (fun _ hf => ?_) (fun _ hf => ?_)
  · refine ex_pu (ls' := [vR 82]) (st' := [vR 82]) (dg dc36 13 rfl) rfl rfl ?_
    refine ex_getF (dg dc36 14 rfl) rfl (LOC.st (Nat.le_of_ble_eq_true rfl) rfl) rfl ?_
    refine ex_ldcT (dg dc36 15 rfl) rfl ?_
    refine ex_cI (vs := [vR 1, vR (E0 + 2 + 2 * 23)]) (st' := []) (F := (tape_tookWord 23 M_2)) (Or.inr (Or.inl ⟨rfl, (dg dc36 16 rfl)⟩)) rfl rfl (rk1 (LOC.st (Nat.le_of_ble_eq_true rfl) rfl) rfl) rfl (fun _ r9 => tape_tookWord_ok (Z := Z) (d := e9) (by omega) (by decide)  r9) hf (fun z_6 M_5 he_4 hf => ?_)
    refine ex_if (t := 56) (dg dc36 17 rfl) rfl hf (fun _ hf => ?_) (fun _ hf => ?_)
    · refine ex_pu (ls' := [vR 82]) (st' := [vR 82]) (dg dc36 23 rfl) rfl rfl ?_
      refine ex_getF (dg dc36 24 rfl) rfl (LOC.st (Nat.le_of_ble_eq_true rfl) rfl) rfl ?_
      refine ex_ldcT (dg dc36 25 rfl) rfl ?_
      refine ex_cI (vs := [vR 1, vR (E0 + 2 + 2 * 24)]) (st' := []) (F := (tape_tookWord 24 M_5)) (Or.inr (Or.inl ⟨rfl, (dg dc36 26 rfl)⟩)) rfl rfl (rk1 (LOC.st (Nat.le_of_ble_eq_true rfl) rfl) rfl) rfl (fun _ r9 => tape_tookWord_ok (Z := Z) (d := e9) (by omega) (by decide)  r9) hf (fun z_9 M_8 he_7 hf => ?_)
      refine ex_if (t := 81) (dg dc36 27 rfl) rfl hf (fun _ hf => ?_) (fun _ hf => ?_)
      · refine ex_pu (ls' := [vR 82]) (st' := [vR 82]) (dg dc36 33 rfl) rfl rfl ?_
        refine ex_getF (dg dc36 34 rfl) rfl (LOC.st (Nat.le_of_ble_eq_true rfl) rfl) rfl ?_
        refine ex_ldcT (dg dc36 35 rfl) rfl ?_
        refine ex_cI (vs := [vR 1, vR (E0 + 2 + 2 * 25)]) (st' := []) (F := (tape_tookWord 25 M_8)) (Or.inr (Or.inl ⟨rfl, (dg dc36 36 rfl)⟩)) rfl rfl (rk1 (LOC.st (Nat.le_of_ble_eq_true rfl) rfl) rfl) rfl (fun _ r9 => tape_tookWord_ok (Z := Z) (d := e9) (by omega) (by decide)  r9) hf (fun z_12 M_11 he_10 hf => ?_)
        refine ex_if (t := 106) (dg dc36 37 rfl) rfl hf (fun _ hf => ?_) (fun _ hf => ?_)
        · refine ex_pu (ls' := [vR 82]) (st' := [vR 82]) (dg dc36 43 rfl) rfl rfl ?_
          refine ex_getF (dg dc36 44 rfl) rfl (LOC.st (Nat.le_of_ble_eq_true rfl) rfl) rfl ?_
          refine ex_ldcT (dg dc36 45 rfl) rfl ?_
          refine ex_cI (vs := [vR 1, vR (E0 + 2 + 2 * 26)]) (st' := []) (F := (tape_tookWord 26 M_11)) (Or.inr (Or.inl ⟨rfl, (dg dc36 46 rfl)⟩)) rfl rfl (rk1 (LOC.st (Nat.le_of_ble_eq_true rfl) rfl) rfl) rfl (fun _ r9 => tape_tookWord_ok (Z := Z) (d := e9) (by omega) (by decide)  r9) hf (fun z_15 M_14 he_13 hf => ?_)
          refine ex_if (t := 131) (dg dc36 47 rfl) rfl hf (fun _ hf => ?_) (fun _ hf => ?_)
          · refine ex_pu (ls' := [vR 82]) (st' := [vR 82]) (dg dc36 53 rfl) rfl rfl ?_
            refine ex_getF (dg dc36 54 rfl) rfl (LOC.st (Nat.le_of_ble_eq_true rfl) rfl) rfl ?_
            refine ex_ldcT (dg dc36 55 rfl) rfl ?_
            refine ex_cI (vs := [vR 1, vR (E0 + 2 + 2 * 27)]) (st' := []) (F := (tape_tookWord 27 M_14)) (Or.inr (Or.inl ⟨rfl, (dg dc36 56 rfl)⟩)) rfl rfl (rk1 (LOC.st (Nat.le_of_ble_eq_true rfl) rfl) rfl) rfl (fun _ r9 => tape_tookWord_ok (Z := Z) (d := e9) (by omega) (by decide)  r9) hf (fun z_18 M_17 he_16 hf => ?_)
            refine ex_if (t := 156) (dg dc36 57 rfl) rfl hf (fun _ hf => ?_) (fun _ hf => ?_)
            · refine ex_pu (ls' := [vR 82]) (st' := [vR 82]) (dg dc36 63 rfl) rfl rfl ?_
              refine ex_getF (dg dc36 64 rfl) rfl (LOC.st (Nat.le_of_ble_eq_true rfl) rfl) rfl ?_
              refine ex_ldcT (dg dc36 65 rfl) rfl ?_
              refine ex_cI (vs := [vR 1, vR (E0 + 2 + 2 * 28)]) (st' := []) (F := (tape_tookWord 28 M_17)) (Or.inr (Or.inl ⟨rfl, (dg dc36 66 rfl)⟩)) rfl rfl (rk1 (LOC.st (Nat.le_of_ble_eq_true rfl) rfl) rfl) rfl (fun _ r9 => tape_tookWord_ok (Z := Z) (d := e9) (by omega) (by decide)  r9) hf (fun z_21 M_20 he_19 hf => ?_)
              refine ex_if (t := 181) (dg dc36 67 rfl) rfl hf (fun _ hf => ?_) (fun _ hf => ?_)
              · refine ex_pu (ls' := [vR 82]) (st' := [vR 82]) (dg dc36 73 rfl) rfl rfl ?_
                refine ex_getF (dg dc36 74 rfl) rfl (LOC.st (Nat.le_of_ble_eq_true rfl) rfl) rfl ?_
                refine ex_ldcT (dg dc36 75 rfl) rfl ?_
                refine ex_cI (vs := [vR 1, vR (E0 + 2 + 2 * 29)]) (st' := []) (F := (tape_tookWord 29 M_20)) (Or.inr (Or.inl ⟨rfl, (dg dc36 76 rfl)⟩)) rfl rfl (rk1 (LOC.st (Nat.le_of_ble_eq_true rfl) rfl) rfl) rfl (fun _ r9 => tape_tookWord_ok (Z := Z) (d := e9) (by omega) (by decide)  r9) hf (fun z_24 M_23 he_22 hf => ?_)
                refine ex_if (t := 206) (dg dc36 77 rfl) rfl hf (fun _ hf => ?_) (fun _ hf => ?_)
                · refine ex_pu (ls' := [vR 82]) (st' := [vR 82]) (dg dc36 83 rfl) rfl rfl ?_
                  refine ex_getF (dg dc36 84 rfl) rfl (LOC.st (Nat.le_of_ble_eq_true rfl) rfl) rfl ?_
                  refine ex_cV (vs := [vR 1]) (st' := []) (F := (tape_fail  M_23)) (Or.inr (Or.inl ⟨rfl, (dg dc36 85 rfl)⟩)) rfl rfl (rk1 (LOC.st (Nat.le_of_ble_eq_true rfl) rfl) rfl) rfl (fun _ r9 => tape_fail_ok (Z := Z) (d := e9) (by omega)  r9) hf (fun M_26 he_25 hf => ?_)
                  exact ex_vre (dg dc36 86 rfl) rfl hf
                · refine ex_pu (ls' := [vR 82]) (st' := [vR 82]) (dg dc36 78 rfl) rfl rfl ?_
                  refine ex_getF (dg dc36 79 rfl) rfl (LOC.st (Nat.le_of_ble_eq_true rfl) rfl) rfl ?_
                  refine ex_pu (ls' := [vR 82]) (st' := [vI 1006, vR 43]) (dg dc36 80 rfl) rfl rfl ?_
                  refine ex_cV (vs := [vR 43, vI 1006]) (st' := []) (F := (law_append 43 1006 M_23)) (Or.inr (Or.inl ⟨rfl, (dg dc36 81 rfl)⟩)) rfl rfl (rk1 (LOC.st (Nat.le_of_ble_eq_true rfl) rfl) rfl) rfl (fun _ r9 => law_append_ok (Z := Z) (d := e9) (by omega) isLaw43  r9) hf (fun M_29 he_28 hf => ?_)
                  refine ex_goto (t := 213) (dg dc36 82 rfl) rfl rfl ?_
                  exact ex_vre (dg dc36 86 rfl) rfl hf
              · refine ex_pu (ls' := [vR 82]) (st' := [vR 82]) (dg dc36 68 rfl) rfl rfl ?_
                refine ex_getF (dg dc36 69 rfl) rfl (LOC.st (Nat.le_of_ble_eq_true rfl) rfl) rfl ?_
                refine ex_pu (ls' := [vR 82]) (st' := [vI 1005, vR 43]) (dg dc36 70 rfl) rfl rfl ?_
                refine ex_cV (vs := [vR 43, vI 1005]) (st' := []) (F := (law_append 43 1005 M_20)) (Or.inr (Or.inl ⟨rfl, (dg dc36 71 rfl)⟩)) rfl rfl (rk1 (LOC.st (Nat.le_of_ble_eq_true rfl) rfl) rfl) rfl (fun _ r9 => law_append_ok (Z := Z) (d := e9) (by omega) isLaw43  r9) hf (fun M_32 he_31 hf => ?_)
                refine ex_goto (t := 213) (dg dc36 72 rfl) rfl rfl ?_
                exact ex_vre (dg dc36 86 rfl) rfl hf
            · refine ex_pu (ls' := [vR 82]) (st' := [vR 82]) (dg dc36 58 rfl) rfl rfl ?_
              refine ex_getF (dg dc36 59 rfl) rfl (LOC.st (Nat.le_of_ble_eq_true rfl) rfl) rfl ?_
              refine ex_pu (ls' := [vR 82]) (st' := [vI 1004, vR 43]) (dg dc36 60 rfl) rfl rfl ?_
              refine ex_cV (vs := [vR 43, vI 1004]) (st' := []) (F := (law_append 43 1004 M_17)) (Or.inr (Or.inl ⟨rfl, (dg dc36 61 rfl)⟩)) rfl rfl (rk1 (LOC.st (Nat.le_of_ble_eq_true rfl) rfl) rfl) rfl (fun _ r9 => law_append_ok (Z := Z) (d := e9) (by omega) isLaw43  r9) hf (fun M_35 he_34 hf => ?_)
              refine ex_goto (t := 213) (dg dc36 62 rfl) rfl rfl ?_
              exact ex_vre (dg dc36 86 rfl) rfl hf
          · refine ex_pu (ls' := [vR 82]) (st' := [vR 82]) (dg dc36 48 rfl) rfl rfl ?_
            refine ex_getF (dg dc36 49 rfl) rfl (LOC.st (Nat.le_of_ble_eq_true rfl) rfl) rfl ?_
            refine ex_pu (ls' := [vR 82]) (st' := [vI 1003, vR 43]) (dg dc36 50 rfl) rfl rfl ?_
            refine ex_cV (vs := [vR 43, vI 1003]) (st' := []) (F := (law_append 43 1003 M_14)) (Or.inr (Or.inl ⟨rfl, (dg dc36 51 rfl)⟩)) rfl rfl (rk1 (LOC.st (Nat.le_of_ble_eq_true rfl) rfl) rfl) rfl (fun _ r9 => law_append_ok (Z := Z) (d := e9) (by omega) isLaw43  r9) hf (fun M_38 he_37 hf => ?_)
            refine ex_goto (t := 213) (dg dc36 52 rfl) rfl rfl ?_
            exact ex_vre (dg dc36 86 rfl) rfl hf
        · refine ex_pu (ls' := [vR 82]) (st' := [vR 82]) (dg dc36 38 rfl) rfl rfl ?_
          refine ex_getF (dg dc36 39 rfl) rfl (LOC.st (Nat.le_of_ble_eq_true rfl) rfl) rfl ?_
          refine ex_pu (ls' := [vR 82]) (st' := [vI 1002, vR 43]) (dg dc36 40 rfl) rfl rfl ?_
          refine ex_cV (vs := [vR 43, vI 1002]) (st' := []) (F := (law_append 43 1002 M_11)) (Or.inr (Or.inl ⟨rfl, (dg dc36 41 rfl)⟩)) rfl rfl (rk1 (LOC.st (Nat.le_of_ble_eq_true rfl) rfl) rfl) rfl (fun _ r9 => law_append_ok (Z := Z) (d := e9) (by omega) isLaw43  r9) hf (fun M_41 he_40 hf => ?_)
          refine ex_goto (t := 213) (dg dc36 42 rfl) rfl rfl ?_
          exact ex_vre (dg dc36 86 rfl) rfl hf
      · refine ex_pu (ls' := [vR 82]) (st' := [vR 82]) (dg dc36 28 rfl) rfl rfl ?_
        refine ex_getF (dg dc36 29 rfl) rfl (LOC.st (Nat.le_of_ble_eq_true rfl) rfl) rfl ?_
        refine ex_pu (ls' := [vR 82]) (st' := [vI 1001, vR 43]) (dg dc36 30 rfl) rfl rfl ?_
        refine ex_cV (vs := [vR 43, vI 1001]) (st' := []) (F := (law_append 43 1001 M_8)) (Or.inr (Or.inl ⟨rfl, (dg dc36 31 rfl)⟩)) rfl rfl (rk1 (LOC.st (Nat.le_of_ble_eq_true rfl) rfl) rfl) rfl (fun _ r9 => law_append_ok (Z := Z) (d := e9) (by omega) isLaw43  r9) hf (fun M_44 he_43 hf => ?_)
        refine ex_goto (t := 213) (dg dc36 32 rfl) rfl rfl ?_
        exact ex_vre (dg dc36 86 rfl) rfl hf
    · refine ex_pu (ls' := [vR 82]) (st' := [vR 82]) (dg dc36 18 rfl) rfl rfl ?_
      refine ex_getF (dg dc36 19 rfl) rfl (LOC.st (Nat.le_of_ble_eq_true rfl) rfl) rfl ?_
      refine ex_pu (ls' := [vR 82]) (st' := [vI 1000, vR 43]) (dg dc36 20 rfl) rfl rfl ?_
      refine ex_cV (vs := [vR 43, vI 1000]) (st' := []) (F := (law_append 43 1000 M_5)) (Or.inr (Or.inl ⟨rfl, (dg dc36 21 rfl)⟩)) rfl rfl (rk1 (LOC.st (Nat.le_of_ble_eq_true rfl) rfl) rfl) rfl (fun _ r9 => law_append_ok (Z := Z) (d := e9) (by omega) isLaw43  r9) hf (fun M_47 he_46 hf => ?_)
      refine ex_goto (t := 213) (dg dc36 22 rfl) rfl rfl ?_
      exact ex_vre (dg dc36 86 rfl) rfl hf
  · refine ex_pu (ls' := [vR 82]) (st' := [vR 82]) (dg dc36 4 rfl) rfl rfl ?_
    refine ex_getF (dg dc36 5 rfl) rfl (LOC.st (Nat.le_of_ble_eq_true rfl) rfl) rfl ?_
    refine ex_pu (ls' := [vR 82]) (st' := [vR 82, vR 43]) (dg dc36 6 rfl) rfl rfl ?_
    refine ex_getF (dg dc36 7 rfl) rfl (LOC.st (Nat.le_of_ble_eq_true rfl) rfl) rfl ?_
    refine ex_pu (ls' := [vR 82]) (st' := [vI 0, vR 1, vR 43]) (dg dc36 8 rfl) rfl rfl ?_
    refine ex_pu (ls' := [vR 82]) (st' := [vI 999, vI 0, vR 1, vR 43]) (dg dc36 9 rfl) rfl rfl ?_
    refine ex_cI (vs := [vR 1, vI 0, vI 999]) (st' := [vR 43]) (F := (tape_needNumber 0 999 M_2)) (Or.inr (Or.inl ⟨rfl, (dg dc36 10 rfl)⟩)) rfl rfl (rk1 (LOC.st (Nat.le_of_ble_eq_true rfl) rfl) rfl) rfl (fun _ r9 => tape_needNumber_ok (Z := Z) (d := e9) (by omega)  r9) hf (fun z_51 M_50 he_49 hf => ?_)
    refine ex_cV (vs := [vR 43, vI z_51]) (st' := []) (F := (law_append 43 z_51 M_50)) (Or.inr (Or.inl ⟨rfl, (dg dc36 11 rfl)⟩)) rfl rfl (rk1 (LOC.st (Nat.le_of_ble_eq_true rfl) rfl) rfl) rfl (fun _ r9 => law_append_ok (Z := Z) (d := e9) (by omega) isLaw43  r9) hf (fun M_53 he_52 hf => ?_)
    refine ex_goto (t := 213) (dg dc36 12 rfl) rfl rfl ?_
    exact ex_vre (dg dc36 86 rfl) rfl hf
-- GlassHill$Riddles.gateAnswer
def il41 : List (Nat × Instr × Nat) := [(0, .aload_n 0, 1), (1, .getfield 25, 3), (4, .getfield 38, 3), (7, .invokestatic 43, 3), (10, .istore_n 2, 1), (11, .iload_n 1, 1), (12, .iconst (-1), 1), (13, .if_icmp .lt 14, 3), (16, .iload_n 1, 1), (17, .iload_n 2, 1), (18, .if_icmp .ge 9, 3), (21, .iload_n 1, 1), (22, .bipush 7, 2), (24, .if_icmp .lt 5, 3), (27, .iconst (-1), 1), (28, .ireturn, 1), (29, .aload_n 0, 1), (30, .ldc 33, 2), (32, .putfield 34, 3), (35, .aload_n 0, 1), (36, .iconst 0, 1), (37, .aload_n 0, 1), (38, .getfield 25, 3), (41, .getfield 38, 3), (44, .iconst 0, 1), (45, .iconst 0, 1), (46, .invokevirtual 49, 3), (49, .iload_n 1, 1), (50, .iconst (-1), 1), (51, .if_icmp .ne 10, 3), (54, .aload_n 0, 1), (55, .getfield 34, 3), (58, .goto 9, 3), (61, .aload_n 0, 1), (62, .getfield 15, 3), (65, .iload_n 1, 1), (66, .iaload, 1), (67, .ireturn, 1)]
theorem dc41 : dcs (mC 41) il41 := dc_of (by decide +kernel)
def ridd_gateAnswer (v1 : Int) (M : MM) : OR :=
  (bI (jdk_bitCount (M 23 7) M) fun z_3 M_2 => (bif cmpB .lt v1 (-1) then some (rI (-1), M_2) else (bif cmpB .ge v1 z_3 then some (rI (-1), M_2) else (bif cmpB .lt v1 7 then (sM (mU M_2 161 5 1000000000) fun M_4 => (bV (ridd_orderOn_F 12 0 (M_4 23 7) 0 0 M_4) fun M_7 => (bif cmpB .ne v1 (-1) then (bif inB v1 7 then some (rI (M_7 163 (v1).toNat), M_7) else none) else some (rI (M_7 161 5), M_7)))) else some (rI (-1), M_2)))))
set_option maxRecDepth 4000 in
theorem ridd_gateAnswer_ok {Z : Nat × (Nat → Int)} {d : Nat} (hd : 15 ≤ d) {M : MM}  {v1 : Int} {res : AR × MM} (hf : ridd_gateAnswer v1 M = some res) : EX Z d 41 0 (ent 41 [vR 161, vI v1]) [] M res := by
  obtain ⟨e9, rfl⟩ : ∃ e9, d = e9 + 1 := ⟨d - 1, by omega⟩
  unfold ridd_gateAnswer at hf
  show EX Z _ 41 0 [vR 161, vI v1, vU] [] M res
  refine ex_pu (ls' := [vR 161, vI v1, vU]) (st' := [vR 161]) (dg dc41 0 rfl) rfl rfl ?_
  refine ex_getF (dg dc41 1 rfl) rfl (LOC.st (Nat.le_of_ble_eq_true rfl) rfl) rfl ?_
  refine ex_getI (dg dc41 2 rfl) rfl (LOC.st (Nat.le_of_ble_eq_true rfl) rfl) rfl ?_
  refine ex_cI (vs := [vI (M 23 7)]) (st' := []) (F := (jdk_bitCount (M 23 7) M)) (Or.inl ⟨rfl, (dg dc41 3 rfl)⟩) rfl rfl (Or.inl rfl) rfl (fun _ r9 => jdk_bitCount_ok (Z := Z) (d := e9) (by omega)  r9) hf (fun z_3 M_2 he_1 hf => ?_)
  refine ex_pu (ls' := [vR 161, vI v1, vI z_3]) (st' := []) (dg dc41 4 rfl) rfl rfl ?_
  refine ex_pu (ls' := [vR 161, vI v1, vI z_3]) (st' := [vI v1]) (dg dc41 5 rfl) rfl rfl ?_
  refine ex_pu (ls' := [vR 161, vI v1, vI z_3]) (st' := [vI (-1), vI v1]) (dg dc41 6 rfl) rfl rfl ?_
  refine ex_icmp (t := 27) (dg dc41 7 rfl) rfl hf (fun _ hf => ?_) (fun _ hf => ?_)
  · refine ex_pu (ls' := [vR 161, vI v1, vI z_3]) (st' := [vI (-1)]) (dg dc41 14 rfl) rfl rfl ?_
    exact ex_ire (dg dc41 15 rfl) rfl hf
  · refine ex_pu (ls' := [vR 161, vI v1, vI z_3]) (st' := [vI v1]) (dg dc41 8 rfl) rfl rfl ?_
    refine ex_pu (ls' := [vR 161, vI v1, vI z_3]) (st' := [vI z_3, vI v1]) (dg dc41 9 rfl) rfl rfl ?_
    refine ex_icmp (t := 27) (dg dc41 10 rfl) rfl hf (fun _ hf => ?_) (fun _ hf => ?_)
    · refine ex_pu (ls' := [vR 161, vI v1, vI z_3]) (st' := [vI (-1)]) (dg dc41 14 rfl) rfl rfl ?_
      exact ex_ire (dg dc41 15 rfl) rfl hf
    · refine ex_pu (ls' := [vR 161, vI v1, vI z_3]) (st' := [vI v1]) (dg dc41 11 rfl) rfl rfl ?_
      refine ex_pu (ls' := [vR 161, vI v1, vI z_3]) (st' := [vI 7, vI v1]) (dg dc41 12 rfl) rfl rfl ?_
      refine ex_icmp (t := 29) (dg dc41 13 rfl) rfl hf (fun _ hf => ?_) (fun _ hf => ?_)
      · refine ex_pu (ls' := [vR 161, vI v1, vI z_3]) (st' := [vR 161]) (dg dc41 16 rfl) rfl rfl ?_
        refine ex_ldcI (dg dc41 17 rfl) rfl ?_
        refine ex_putI (dg dc41 18 rfl) rfl (LOC.st (Nat.le_of_ble_eq_true rfl) rfl) rfl rfl rfl ?_
        refine ex_gen hf (fun M_4 hM_5 hf => ?_)
        refine ex_pu (ls' := [vR 161, vI v1, vI z_3]) (st' := [vR 161]) (dg dc41 19 rfl) rfl rfl ?_
        refine ex_pu (ls' := [vR 161, vI v1, vI z_3]) (st' := [vI 0, vR 161]) (dg dc41 20 rfl) rfl rfl ?_
        refine ex_pu (ls' := [vR 161, vI v1, vI z_3]) (st' := [vR 161, vI 0, vR 161]) (dg dc41 21 rfl) rfl rfl ?_
        refine ex_getF (dg dc41 22 rfl) rfl (LOC.st (Nat.le_of_ble_eq_true rfl) rfl) rfl ?_
        refine ex_getI (dg dc41 23 rfl) rfl (LOC.st (Nat.le_of_ble_eq_true rfl) rfl) rfl ?_
        refine ex_pu (ls' := [vR 161, vI v1, vI z_3]) (st' := [vI 0, vI (M_4 23 7), vI 0, vR 161]) (dg dc41 24 rfl) rfl rfl ?_
        refine ex_pu (ls' := [vR 161, vI v1, vI z_3]) (st' := [vI 0, vI 0, vI (M_4 23 7), vI 0, vR 161]) (dg dc41 25 rfl) rfl rfl ?_
        refine ex_cV (vs := [vR 161, vI 0, vI (M_4 23 7), vI 0, vI 0]) (st' := []) (F := (ridd_orderOn_F 12 0 (M_4 23 7) 0 0 M_4)) (Or.inr (Or.inl ⟨rfl, (dg dc41 26 rfl)⟩)) rfl rfl (rk1 (LOC.st (Nat.le_of_ble_eq_true rfl) rfl) rfl) rfl (fun _ r9 => ridd_orderOn_F_ok (Z := Z) 12 (d := e9) (by omega) r9) hf (fun M_7 he_6 hf => ?_)
        refine ex_pu (ls' := [vR 161, vI v1, vI z_3]) (st' := [vI v1]) (dg dc41 27 rfl) rfl rfl ?_
        refine ex_pu (ls' := [vR 161, vI v1, vI z_3]) (st' := [vI (-1), vI v1]) (dg dc41 28 rfl) rfl rfl ?_
        refine ex_icmp (t := 61) (dg dc41 29 rfl) rfl hf (fun _ hf => ?_) (fun _ hf => ?_)
        · refine ex_pu (ls' := [vR 161, vI v1, vI z_3]) (st' := [vR 161]) (dg dc41 33 rfl) rfl rfl ?_
          refine ex_getO (dg dc41 34 rfl) rfl (LOC.st (Nat.le_of_ble_eq_true rfl) rfl) rfl ?_
          show EX Z _ 41 _ [vR 161, vI v1, vI z_3] [vR 163] _ _
          refine ex_pu (ls' := [vR 161, vI v1, vI z_3]) (st' := [vI v1, vR 163]) (dg dc41 35 rfl) rfl rfl ?_
          refine ex_iald (dg dc41 36 rfl) (LOC.st (Nat.le_of_ble_eq_true rfl) rfl) rfl hf (fun _ hf => ?_)
          exact ex_ire (dg dc41 37 rfl) rfl hf
        · refine ex_pu (ls' := [vR 161, vI v1, vI z_3]) (st' := [vR 161]) (dg dc41 30 rfl) rfl rfl ?_
          refine ex_getI (dg dc41 31 rfl) rfl (LOC.st (Nat.le_of_ble_eq_true rfl) rfl) rfl ?_
          refine ex_goto (t := 67) (dg dc41 32 rfl) rfl rfl ?_
          exact ex_ire (dg dc41 37 rfl) rfl hf
      · refine ex_pu (ls' := [vR 161, vI v1, vI z_3]) (st' := [vI (-1)]) (dg dc41 14 rfl) rfl rfl ?_
        exact ex_ire (dg dc41 15 rfl) rfl hf
