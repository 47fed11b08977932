def jny_copyFrom (a : Nat) (b : Nat) (M : MM) : OR :=
  (sM (mU M a 0 (M b 0)) fun M_1 => (sM (mU M_1 a 1 (M_1 b 1)) fun M_3 => (sM (mU M_3 a 2 (M_3 b 2)) fun M_5 => (sM (mU M_5 a 3 (M_5 b 3)) fun M_7 => (sM (mU M_7 a 4 (M_7 b 4)) fun M_9 => (sM (mU M_9 a 5 (M_9 b 5)) fun M_11 => (sM (mU M_11 a 6 (M_11 b 6)) fun M_13 => (sM (mU M_13 a 7 (M_13 b 7)) fun M_15 => (sM (mU M_15 a 8 (M_15 b 8)) fun M_17 => (bV (land_copyRow (b + 1) (a + 1) 10 M_17) fun M_20 => (bV (land_copyRow (b + 2) (a + 2) 7 M_20) fun M_23 => (bV (land_copyRow (b + 3) (a + 3) 10 M_23) fun M_26 => (bV (land_copyRow (b + 4) (a + 4) 10 M_26) fun M_29 => (bV (land_copyRow (b + 5) (a + 5) 10 M_29) fun M_32 => some (rV, M_32)))))))))))))))
def jny_letPass (a : Nat) (v1 : Int) (v2 : Int) (M : MM) : OR :=
  (sM (mU M a 6 (iOr (M a 6) (iShl 1 v1))) fun M_1 => (bif cmpB .ge (M_1 a 8) 10 then some (rV, M_1) else (bif inB (M_1 a 8) 10 then (sM (mU M_1 (a + 3) ((M_1 a 8)).toNat v1) fun M_3 => (bif inB (M_3 a 8) 10 then (sM (mU M_3 (a + 4) ((M_3 a 8)).toNat v2) fun M_5 => (bif inB (M_5 a 8) 10 then (sM (mU M_5 (a + 5) ((M_5 a 8)).toNat (M_5 a 1)) fun M_7 => (sM (mU M_7 a 8 ((M_7 a 8) + 1)) fun M_9 => some (rV, M_9))) else none)) else none)) else none)))
def jny_lose (a : Nat) (v1 : Int) (M : MM) : OR :=
  (sM (mU M a 3 (iAnd (M a 3) (iXor (iShl 1 v1) (-1)))) fun M_1 => (sM (mU M_1 a 4 (iOr (M_1 a 4) (iShl 1 v1))) fun M_3 => some (rV, M_3)))
def land_copyFrom (a : Nat) (b : Nat) (M : MM) : OR :=
  (sM (mU M a 0 (M b 0)) fun M_1 => (sM (mU M_1 a 1 (M_1 b 1)) fun M_3 => (sM (mU M_3 a 2 (M_3 b 2)) fun M_5 => (sM (mU M_5 a 3 (M_5 b 3)) fun M_7 => (sM (mU M_7 a 4 (M_7 b 4)) fun M_9 => (sM (mU M_9 a 5 (M_9 b 5)) fun M_11 => (sM (mU M_11 a 6 (M_11 b 6)) fun M_13 => (bV (land_copyRow (b + 1) (a + 1) 17 M_13) fun M_16 => (bV (land_copyRow (b + 2) (a + 2) 17 M_16) fun M_19 => (bV (land_copyRow (b + 3) (a + 3) 10 M_19) fun M_22 => (bV (land_copyRow (b + 4) (a + 4) 10 M_22) fun M_25 => (bV (land_copyRow (b + 5) (a + 5) 10 M_25) fun M_28 => (bV (land_copyRow (b + 6) (a + 6) 10 M_28) fun M_31 => (bV (land_copyRow (b + 7) (a + 7) 10 M_31) fun M_34 => (bV (land_copyRow (b + 8) (a + 8) 32 M_34) fun M_37 => (bV (land_copyRow (b + 9) (a + 9) 16 M_37) fun M_40 => (bV (land_copyRow (b + 10) (a + 10) 16 M_40) fun M_43 => (bV (land_copyRow (b + 11) (a + 11) 7 M_43) fun M_46 => (bV (land_copyRow (b + 12) (a + 12) 7 M_46) fun M_49 => (bV (land_copyRow (b + 13) (a + 13) 7 M_49) fun M_52 => some (rV, M_52)))))))))))))))))))))
def land_allThings (a : Nat) (M : MM) : OR :=
  some (rI ((iShl 1 (M a 1)) - 1), M)
def land_allBrothers (a : Nat) (M : MM) : OR :=
  some (rI ((iShl 1 (M a 3)) - 1), M)
def land_opens (a : Nat) (v1 : Int) (v2 : Int) (M : MM) : OR :=
  (bif inB v2 17 then (bif inB v2 17 then (bif cmpB .ne (iAnd v1 (M (a + 1) (v2).toNat)) (M (a + 2) (v2).toNat) then some (rI 0, M) else some (rI 1, M)) else none) else none)
def land_openers_L4 (a : Nat) (v1 : Int) (K1 : Int → MM → OR) : Nat → Int → Int → MM → OR
  | 0, _, _, _ => none
  | n + 1, v2, v3, M => (bif cmpB .ge v3 (M a 1) then (K1 v2 M) else (bif cmpB .ge v3 10 then (K1 v2 M) else (bif inB v3 10 then (bI (land_opens a (M (a + 6) (v3).toNat) v1 M) fun z_3 M_2 => (bif cmpB .eq z_3 0 then (land_openers_L4 a v1 K1 n v2 (v3 + 1) M_2) else (land_openers_L4 a v1 K1 n (iOr v2 (iShl 1 v3)) (v3 + 1) M_2))) else none)))
def land_openers (a : Nat) (v1 : Int) (M : MM) : OR :=
  (land_openers_L4 a v1 (fun v2_4 M_5 => some (rI v2_4, M_5)) FU 0 0 M)
def land_otherEnd (a : Nat) (v1 : Int) (v2 : Int) (M : MM) : OR :=
  (bif inB (2 * v1) 32 then (bif cmpB .ne (M (a + 8) ((2 * v1)).toNat) v2 then (bif inB ((2 * v1) + 1) 32 then (bif cmpB .ne (M (a + 8) (((2 * v1) + 1)).toNat) v2 then some (rI (-1), M) else (bif inB (2 * v1) 32 then some (rI (M (a + 8) ((2 * v1)).toNat), M) else none)) else none) else (bif inB ((2 * v1) + 1) 32 then some (rI (M (a + 8) (((2 * v1) + 1)).toNat), M) else none)) else none)
def law_copyFrom (a : Nat) (b : Nat) (M : MM) : OR :=
  (sM (mU M a 0 (M b 0)) fun M_1 => (sM (mU M_1 a 4 (M_1 b 4)) fun M_3 => (bV (land_copyRow (b + 1) (a + 1) 12 M_3) fun M_6 => (bV (land_copyRow (b + 2) (a + 2) 12 M_6) fun M_9 => (bV (land_copyRow (b + 3) (a + 3) 400 M_9) fun M_12 => some (rV, M_12))))))
def law_append (a : Nat) (v1 : Int) (M : MM) : OR :=
  (bif cmpB .ge (M a 4) 400 then some (rV, M) else (bif inB (M a 4) 400 then (sM (mU M (a + 3) ((M a 4)).toNat v1) fun M_1 => (sM (mU M_1 a 4 ((M_1 a 4) + 1)) fun M_3 => some (rV, M_3))) else none))
def law_tellRoad (a : Nat) (v1 : Int) (v2 : Int) (v3 : Int) (v4 : Int) (M : MM) : OR :=
  (bif inB 0 8 then (sM (mU M (a + 4) 0 v1) fun M_1 => (bif inB 1 8 then (sM (mU M_1 (a + 4) 1 v2) fun M_3 => (bif inB 2 8 then (sM (mU M_3 (a + 4) 2 v3) fun M_5 => (bif inB 3 8 then (sM (mU M_5 (a + 4) 3 ((w32 v4).tmod (w32 24))) fun M_7 => (bif inB 4 8 then (sM (mU M_7 (a + 4) 4 ((w32 v4).tdiv (w32 24))) fun M_9 => (bif cmpB .lt ((w32 v4).tmod (w32 24)) 6 then (bif inB 7 8 then (sM (mU M_9 (a + 4) 7 1) fun M_11 => some (rV, M_11)) else none) else (bif cmpB .le ((w32 v4).tmod (w32 24)) 19 then (bif inB 7 8 then (sM (mU M_9 (a + 4) 7 0) fun M_13 => some (rV, M_13)) else none) else (bif inB 7 8 then (sM (mU M_9 (a + 4) 7 1) fun M_15 => some (rV, M_15)) else none)))) else none)) else none)) else none)) else none)) else none)
def law_tellCarried (a : Nat) (v1 : Int) (v2 : Int) (M : MM) : OR :=
  (bif inB 5 8 then (sM (mU M (a + 4) 5 v1) fun M_1 => (bif inB 6 8 then (sM (mU M_1 (a + 4) 6 v2) fun M_3 => some (rV, M_3)) else none)) else none)
def law_joined (v0 : Int) (v1 : Int) (v2 : Int) (M : MM) : OR :=
  (bif cmpB .eq v0 1009 then some (rI (iAnd v1 v2), M) else (bif cmpB .eq v0 1010 then some (rI (iOr v1 v2), M) else (bif cmpB .eq v0 1011 then some (rI (v1 + v2), M) else (bif cmpB .eq v0 1012 then (bif cmpB .ge v1 v2 then some (rI 0, M) else some (rI 1, M)) else (bif cmpB .eq v0 1013 then (bif cmpB .le v1 v2 then some (rI 0, M) else some (rI 1, M)) else some (rI (v1 + v2), M))))))
def memo_keep (b : Nat) (M : MM) : OR :=
  (bif inB (M 83 1) 12 then (bV (jny_copyFrom (85 + 6 * ((M 83 1)).toNat) b M) fun M_3 => (sM (mU M_3 83 1 ((w32 ((M_3 83 1) + 1)).tmod (w32 12))) fun M_5 => (sM (mU M_5 83 0 (imin ((M_5 83 0) + 1) 12)) fun M_7 => some (rV, M_7)))) else none)
def memo_recall (b : Nat) (M : MM) : OR :=
  (bif cmpB .ne (M 83 0) 0 then (sM (mU M 83 0 ((M 83 0) - 1)) fun M_1 => (sM (mU M_1 83 1 ((w32 (((M_1 83 1) + 12) - 1)).tmod (w32 12))) fun M_3 => (bif inB (M_3 83 1) 12 then (bV (jny_copyFrom b (85 + 6 * ((M_3 83 1)).toNat) M_3) fun M_7 => some (rI 1, M_7)) else none))) else some (rI 0, M))
def ridd_canBeHis (v1 : Int) (v2 : Int) (M : MM) : OR :=
  (bif inB (2 * v1) 400 then (bif inB ((2 * v1) + 1) 400 then (bI (land_opens 3 (M 2 (((2 * v1) + 1)).toNat) (10 + v2) M) fun z_3 M_2 => (bif cmpB .eq z_3 0 then some (rI 0, M_2) else (bif inB v2 7 then (bif cmpB .gt ((w32 (M_2 15 (v2).toNat)).tmod (w32 24)) (M 2 ((2 * v1)).toNat) then some (rI 0, M_2) else some (rI 1, M_2)) else none))) else none) else none)
def ridd_agrees_L16  (v0 v1 v2 v3 : Int) (K1 : Int → MM → OR) : Nat → Int → Int → MM → OR
  | 0, _, _, _ => none
  | n + 1, v4, v5, M => (bif cmpB .ge v5 16 then (K1 v4 M) else (bif cmpB .ne (iAnd v5 v0) v1 then (ridd_agrees_L16 v0 v1 v2 v3 K1 n v4 (v5 + 1) M) else (ridd_agrees_L16 v0 v1 v2 v3 K1 n (iOr v4 (iShl 1 v5)) (v5 + 1) M)))
def ridd_agrees (v0 : Int) (v1 : Int) (v2 : Int) (v3 : Int) (M : MM) : OR :=
  (bif cmpB .eq (iAnd v1 (iXor v0 (-1))) 0 then (ridd_agrees_L16 v0 v1 v2 v3 (fun v4_1 M_2 => (bif cmpB .ne (iAnd v2 (iXor v4_1 (-1))) 0 then some (rI 0, M_2) else (bif cmpB .ne (iAnd v3 v4_1) 0 then some (rI 0, M_2) else some (rI 1, M_2)))) FU 0 0 M) else some (rI 0, M))
def ridd_mostShirts_L9  (v0 v1 v2 : Int) (K1 : Int → MM → OR) : Nat → Int → Int → Int → MM → OR
  | 0, _, _, _, _ => none
  | n + 1, v4, v5, v6, M => (bif cmpB .ge v6 v0 then (K1 v4 M) else (bif cmpB .ne (lCmp (lAnd (lUshr v2 v6) 1) 1) 0 then (bif cmpB .lt (v5 + 1) v1 then (ridd_mostShirts_L9 v0 v1 v2 K1 n v4 (v5 + 1) (v6 + 1) M) else (ridd_mostShirts_L9 v0 v1 v2 K1 n (v4 + 1) 0 (v6 + 1) M)) else (bif cmpB .lt 0 v1 then (ridd_mostShirts_L9 v0 v1 v2 K1 n v4 0 (v6 + 1) M) else (ridd_mostShirts_L9 v0 v1 v2 K1 n (v4 + 1) 0 (v6 + 1) M))))
def ridd_mostShirts (v0 : Int) (v1 : Int) (v2 : Int) (M : MM) : OR :=
  (ridd_mostShirts_L9 v0 v1 v2 (fun v4_1 M_2 => some (rI v4_1, M_2)) FU 0 0 0 M)
def ridd_mostShirtsDumb_L11  (v0 v1 v2 : Int) (K1 : Int → MM → OR) : Nat → Int → Int → MM → OR
  | 0, _, _, _ => none
  | n + 1, v4, v5, M => (bif cmpB .ge v5 v0 then (K1 v4 M) else (bif cmpB .ne (lCmp (lAnd (lUshr v2 v5) 1) 1) 0 then (ridd_mostShirtsDumb_L11 v0 v1 v2 K1 n v4 (v5 + 1) M) else (bI (ridd_mostShirts v0 v1 (lAnd v2 (lXor (lShl 1 v5) (-1))) M) fun z_6 M_5 => (ridd_mostShirtsDumb_L11 v0 v1 v2 K1 n (imax v4 z_6) (v5 + 1) M_5))))
def ridd_mostShirtsDumb (v0 : Int) (v1 : Int) (v2 : Int) (M : MM) : OR :=
  (bI (ridd_mostShirts v0 v1 v2 M) fun z_3 M_2 => (ridd_mostShirtsDumb_L11 v0 v1 v2 (fun v4_7 M_8 => some (rI v4_7, M_8)) FU z_3 0 M_2))
def srch_firstState (q : Nat) (M : MM) : OR :=
  some (rJ (lOr (lOr (lOr (lOr (lOr (w32 (M 23 3)) (lShl (w32 (M 23 4)) 10)) (lShl (w32 (M 23 6)) 30)) (lShl (w32 (M 23 7)) 40)) (lShl (w32 (M 23 0)) 47)) (lShl (w32 ((M 23 2) + 1)) 51)), M)
def srch_add_L13 (q : Nat) (v1 : Int) (K1 : Int → MM → OR) (K2 : MM → OR) : Nat → Int → Int → MM → OR
  | 0, _, _, _ => none
  | n + 1, v3, v4, M => (bif cmpB .ge v4 16384 then (K1 v3 M) else (bif inB v3 16384 then (bif cmpB .eq (M 1002 (v3).toNat) 0 then (K1 v3 M) else (bif inB v3 16384 then (bif inB ((M 1002 (v3).toNat) - 1) 6000 then (bif cmpB .ne (lCmp (M 1001 (((M 1002 (v3).toNat) - 1)).toNat) v1) 0 then (srch_add_L13 q v1 K1 K2 n ((w32 (v3 + 1)).tmod (w32 16384)) (v4 + 1) M) else (K2  M)) else none) else none)) else none))
def srch_add_J63 (q : Nat)  (v1 v3 : Int) (M : MM) : OR :=
  (bif cmpB .lt (M 1000 3) 6000 then (bif inB (M 1000 3) 6000 then (sM (mU M 1001 ((M 1000 3)).toNat v1) fun M_5 => (sM (mU M_5 1000 3 ((M_5 1000 3) + 1)) fun M_8 => (bif inB v3 16384 then (sM (mU M_8 1002 (v3).toNat (M_8 1000 3)) fun M_11 => some (rV, M_11)) else none))) else none) else (sM (mU M 1000 4 1) fun M_14 => some (rV, M_14)))
def srch_add (q : Nat) (v1 : Int) (M : MM) : OR :=
  (srch_add_L13 q v1 (fun v3_1 M_2 => (srch_add_J63 q  v1 v3_1 M_2)) (fun M_17 => some (rV, M_17)) FU (lUshr (v1 * (-7046029254386353131)) 50) 0 M)
def srch_lesser (v0 : Int) (v1 : Int) (M : MM) : OR :=
  (bif cmpB .ne v0 (-1) then some (rI (imin v0 v1), M) else some (rI v1, M))
def srch_hoursOf (v0 : Int) (M : MM) : OR :=
  some (rI (iAnd (lUshr v0 56) 31), M)
def srch_placeOf (v0 : Int) (M : MM) : OR :=
  some (rI (iAnd (lUshr v0 47) 15), M)
def srch_passedOf (v0 : Int) (M : MM) : OR :=
  some (rI (iAnd (lUshr v0 30) 1023), M)
def srch_freedOf (v0 : Int) (M : MM) : OR :=
  some (rI (iAnd (lUshr v0 40) 127), M)
def tape_append_L3  (v1 : Int) (K1 : MM → OR) : Nat → Int → MM → OR
  | 0, _, _ => none
  | n + 1, v2, M => (bif cmpB .lt v2 0 then (K1  M) else (bif cmpB .ge (M 1 1) 400 then (tape_append_L3 v1 K1 n (v2 + (-8)) M) else (bif inB (M 1 1) 400 then (sM (mU M 2 ((M 1 1)).toNat (iAnd (iUshr v1 v2) 255)) fun M_1 => (sM (mU M_1 1 1 ((M_1 1 1) + 1)) fun M_3 => (tape_append_L3 v1 K1 n (v2 + (-8)) M_3))) else none)))
def tape_append (v1 : Int) (M : MM) : OR :=
  (tape_append_L3 v1 (fun M_5 => some (rV, M_5)) FU 24 M)
def tape_startText  (M : MM) : OR :=
  (sM (mU M 1 4 0) fun M_1 => (sM (mU M_1 1 3 0) fun M_3 => (sM (mU M_3 1 2 (-1)) fun M_5 => some (rV, M_5))))
def tape_failAt (v1 : Int) (M : MM) : OR :=
  (bif cmpB .ne (M 1 2) (-1) then some (rV, M) else (sM (mU M 1 2 v1) fun M_1 => some (rV, M_1)))
def tape_useUpPairs_L21  (v1 v2 v3 : Int) (K1 : MM → OR) (K2 : MM → OR) : Nat → Int → MM → OR
  | 0, _, _ => none
  | n + 1, v4, M => (bif cmpB .ge (v4 + 1) v3 then (K1  M) else (bif inB v4 400 then (bif cmpB .ge (M 2 (v4).toNat) v1 then (K2  M) else (bif inB (v4 + 1) 400 then (bif cmpB .lt (M 2 ((v4 + 1)).toNat) v2 then (tape_useUpPairs_L21 v1 v2 v3 K1 K2 n (v4 + 2) M) else (K2  M)) else none)) else none))
def tape_useUpPairs (v1 : Int) (v2 : Int) (M : MM) : OR :=
  (sM (mU M 1 1 0) fun M_1 => (bif cmpB .eq ((w32 (M 1 1)).tmod (w32 2)) 0 then (tape_useUpPairs_L21 v1 v2 (M 1 1) (fun M_3 => some (rI ((w32 (M 1 1)).tdiv (w32 2)), M_3)) (fun M_8 => some (rI (-1), M_8)) FU 0 M_1) else some (rI (-1), M_1)))
def tape_skipBlanks_L0  (K1 : MM → OR) : Nat → MM → OR
  | 0, _ => none
  | n + 1, M => (bif cmpB .ge (M 1 4) (M 1 1) then (K1  M) else (bif inB (M 1 4) 400 then (bif cmpB .ne (M 2 ((M 1 4)).toNat) 32 then (K1  M) else (sM (mU M 1 4 ((M 1 4) + 1)) fun M_3 => (tape_skipBlanks_L0  K1 n  M_3))) else none))
def tape_skipBlanks  (M : MM) : OR :=
  (bif cmpB .ge (M 1 4) (M 1 1) then some (rV, M) else (bif inB (M 1 4) 400 then (bif cmpB .ne (M 2 ((M 1 4)).toNat) 32 then some (rV, M) else (sM (mU M 1 4 ((M 1 4) + 1)) fun M_1 => (tape_skipBlanks_L0  (fun M_5 => some (rV, M_5)) FU  M_1))) else none))
def tape_isWithin (v0 : Int) (v1 : Int) (v2 : Int) (M : MM) : OR :=
  (bif cmpB .lt v0 v1 then some (rI 0, M) else (bif cmpB .gt v0 v2 then some (rI 0, M) else some (rI 1, M)))
def ways_measure_L21 (b : Nat) (v3 : Int) (K1 : MM → OR) : Nat → Int → MM → OR
  | 0, _, _ => none
  | n + 1, v4, M => (bif cmpB .ge v4 (M 3 2) then (K1  M) else (bif cmpB .ge v4 16 then (K1  M) else (bif inB (2 * v4) 32 then (bif inB ((2 * v4) + 1) 32 then (bif inB (M 11 ((2 * v4)).toNat) 10 then (bif inB (M 11 (((2 * v4) + 1)).toNat) 10 then (bif inB v4 16 then (bif inB (M 11 ((2 * v4)).toNat) 10 then (sM (mU M b ((M 11 ((2 * v4)).toNat)).toNat (imin (M b ((M 11 ((2 * v4)).toNat)).toNat) ((M b ((M 11 (((2 * v4) + 1)).toNat)).toNat) + (M 12 (v4).toNat)))) fun M_6 => (bif inB (M 11 (((2 * v4) + 1)).toNat) 10 then (bif inB (M 11 ((2 * v4)).toNat) 10 then (bif inB v4 16 then (bif inB (M 11 (((2 * v4) + 1)).toNat) 10 then (sM (mU M_6 b ((M 11 (((2 * v4) + 1)).toNat)).toNat (imin (M_6 b ((M 11 (((2 * v4) + 1)).toNat)).toNat) ((M_6 b ((M 11 ((2 * v4)).toNat)).toNat) + (M_6 12 (v4).toNat)))) fun M_8 => (ways_measure_L21 b v3 K1 n (v4 + 1) M_8)) else none) else none) else none) else none)) else none) else none) else none) else none) else none) else none)))
def ways_measure_L12 (b : Nat) (K1 : MM → OR) : Nat → Int → MM → OR
  | 0, _, _ => none
  | n + 1, v3, M => (bif cmpB .ge v3 10 then (K1  M) else (ways_measure_L21 b v3 (fun M_10 => (ways_measure_L12 b K1 n (v3 + 1) M_10)) FU 0 M))
def ways_measure (v1 : Int) (b : Nat) (M : MM) : OR :=
  (bV (jdk_fill b 10 1000000 M) fun M_2 => (bif inB v1 10 then (sM (mU M_2 b (v1).toNat 0) fun M_4 => (ways_measure_L12 b (fun M_15 => some (rV, M_15)) FU 0 M_4)) else none))
def ways_fewestHours (v1 : Int) (v2 : Int) (M : MM) : OR :=
  (bV (ways_measure v1 159 M) fun M_2 => (bif inB v2 10 then (bif cmpB .ge (M_2 159 (v2).toNat) 1000000 then some (rI (-1), M_2) else (bif inB v2 10 then some (rI (M_2 159 (v2).toNat), M_2) else none)) else none))
def ways_hoursToBothEnds (v1 : Int) (M : MM) : OR :=
  (bif inB v1 10 then (bif inB v1 10 then some (rI (imax (M 159 (v1).toNat) (M 160 (v1).toNat)), M) else none) else none)
def ways_greatestChance_L27  (v2 v3 : Int) (K1 : MM → OR) : Nat → Int → MM → OR
  | 0, _, _ => none
  | n + 1, v4, M => (bif cmpB .ge v4 (M 3 2) then (K1  M) else (bif cmpB .ge v4 16 then (K1  M) else (bif inB (2 * v4) 32 then (bif inB ((2 * v4) + 1) 32 then (bif inB (M 11 ((2 * v4)).toNat) 10 then (bif inB (M 11 (((2 * v4) + 1)).toNat) 10 then (bif inB v4 16 then (bif inB (M 11 ((2 * v4)).toNat) 10 then (sM (mU M 159 ((M 11 ((2 * v4)).toNat)).toNat (imax (M 159 ((M 11 ((2 * v4)).toNat)).toNat) ((w32 ((M 159 ((M 11 (((2 * v4) + 1)).toNat)).toNat) * (M 13 (v4).toNat))).tdiv (w32 100)))) fun M_6 => (bif inB (M 11 (((2 * v4) + 1)).toNat) 10 then (bif inB (M 11 ((2 * v4)).toNat) 10 then (bif inB v4 16 then (bif inB (M 11 (((2 * v4) + 1)).toNat) 10 then (sM (mU M_6 159 ((M 11 (((2 * v4) + 1)).toNat)).toNat (imax (M_6 159 ((M 11 (((2 * v4) + 1)).toNat)).toNat) ((w32 ((M_6 159 ((M 11 ((2 * v4)).toNat)).toNat) * (M_6 13 (v4).toNat))).tdiv (w32 100)))) fun M_8 => (ways_greatestChance_L27 v2 v3 K1 n (v4 + 1) M_8)) else none) else none) else none) else none)) else none) else none) else none) else none) else none) else none)))
def ways_greatestChance_L18  (v2 : Int) (K1 : MM → OR) : Nat → Int → MM → OR
  | 0, _, _ => none
  | n + 1, v3, M => (bif cmpB .ge v3 10 then (K1  M) else (ways_greatestChance_L27 v2 v3 (fun M_10 => (ways_greatestChance_L18 v2 K1 n (v3 + 1) M_10)) FU 0 M))
def ways_greatestChance (v1 : Int) (v2 : Int) (M : MM) : OR :=
  (bV (jdk_fill 159 10 0 M) fun M_2 => (bif inB v1 10 then (sM (mU M_2 159 (v1).toNat 1000000) fun M_4 => (ways_greatestChance_L18 v2 (fun M_15 => (bif inB v2 10 then some (rI (M_15 159 (v2).toNat), M_15) else none)) FU 0 M_4)) else none))
def ways_placesNearerToOne_L4  (K1 : Int → MM → OR) : Nat → Int → Int → MM → OR
  | 0, _, _, _ => none
  | n + 1, v1, v2, M => (bif cmpB .ge v2 10 then (K1 v1 M) else (bif inB v2 10 then (bif inB v2 10 then (bif cmpB .ge (M 159 (v2).toNat) (M 160 (v2).toNat) then (ways_placesNearerToOne_L4  K1 n v1 (v2 + 1) M) else (ways_placesNearerToOne_L4  K1 n (iOr v1 (iShl 1 v2)) (v2 + 1) M)) else none) else none))
def ways_placesNearerToOne  (M : MM) : OR :=
  (ways_placesNearerToOne_L4  (fun v1_1 M_2 => some (rI v1_1, M_2)) FU 0 0 M)
def gh_feed (v1 : Int) (v2 : Int) (v3 : Int) (v4 : Int) (v5 : Int) (M : MM) : OR :=
  (bif cmpB .le ((M 1 1) + 20) 400 then (bV (tape_append v1 M) fun M_2 => (bV (tape_append v2 M_2) fun M_5 => (bV (tape_append v3 M_5) fun M_8 => (bV (tape_append v4 M_8) fun M_11 => (bV (tape_append v5 M_11) fun M_14 => some (rI (M_14 1 1), M_14)))))) else some (rI (-1), M))
def gh_end (v1 : Int) (M : MM) : OR :=
  (bif cmpB .lt v1 0 then some (rI 0, M) else (bif cmpB .le v1 (M 1 1) then (sM (mU M 1 1 v1) fun M_1 => some (rI 1, M_1)) else some (rI 0, M)))
def gh_fault  (M : MM) : OR :=
  some (rI (M 1 2), M)
def gh_log (v1 : Int) (v2 : Int) (M : MM) : OR :=
  (bif cmpB .lt v2 0 then thx 16 M else (bif cmpB .le v2 2 then (bif cmpB .lt v1 0 then some (rI (-1), M) else (bif cmpB .ge v1 (M 23 8) then some (rI (-1), M) else (bif cmpB .lt v1 10 then (bif cmpB .eq v2 0 then (bif inB v1 10 then some (rI (M 26 (v1).toNat), M) else none) else (bif cmpB .eq v2 1 then (bif inB v1 10 then some (rI (M 27 (v1).toNat), M) else none) else (bif inB v1 10 then some (rI (M 28 (v1).toNat), M) else none))) else some (rI (-1), M)))) else thx 16 M))
def gh_undo  (M : MM) : OR :=
  (bI (memo_recall 23 M) fun z_3 M_2 => (bif cmpB .ne z_3 0 then (sM (mU M_2 0 18 ((M_2 0 18) + 1)) fun M_4 => some (rI 1, M_4)) else some (rI 0, M_2)))
def gh_image  (M : MM) : OR :=
  (bV (land_copyFrom 55 3 M) fun M_2 => (bV (law_copyFrom 69 17 M_2) fun M_5 => (bV (jny_copyFrom 75 23 M_5) fun M_8 => (sM (mU M_8 0 10 1) fun M_10 => some (rV, M_10)))))
def gh_shirts (v1 : Int) (v2 : Int) (v3 : Int) (v5 : Int) (M : MM) : OR :=
  (bif cmpB .lt v1 1 then thx 13 M else (bif cmpB .gt v1 64 then thx 13 M else (bif cmpB .lt v2 1 then thx 13 M else (bif cmpB .le v2 9 then (bif cmpB .eq v5 0 then (bI (ridd_mostShirts v1 v2 v3 M) fun z_3 M_2 => some (rI z_3, M_2)) else (bI (ridd_mostShirtsDumb v1 v2 v3 M) fun z_6 M_5 => some (rI z_6, M_5))) else thx 13 M))))
def gh_rememberAct  (M : MM) : OR :=
  (bV (memo_keep 23 M) fun M_2 => (sM (mU M_2 0 18 ((M_2 0 18) + 1)) fun M_4 => some (rV, M_4)))
def gh_forgetActs  (M : MM) : OR :=
  (sM (mU M 83 0 0) fun M_1 => (sM (mU M_1 0 18 ((M_1 0 18) + 1)) fun M_3 => some (rV, M_3)))
def gh_checkPlace (v1 : Int) (M : MM) : OR :=
  (bif cmpB .lt v1 0 then thx 15 M else (bif cmpB .ge v1 (M 3 0) then thx 15 M else (bif cmpB .lt v1 10 then some (rV, M) else thx 15 M)))
def gh_checkThing (v1 : Int) (M : MM) : OR :=
  (bif cmpB .lt v1 0 then thx 15 M else (bif cmpB .ge v1 (M 3 1) then thx 15 M else (bif cmpB .lt v1 10 then some (rV, M) else thx 15 M)))
def gh_checkRoad (v1 : Int) (M : MM) : OR :=
  (bif cmpB .lt v1 0 then thx 15 M else (bif cmpB .ge v1 (M 3 2) then thx 15 M else (bif cmpB .lt v1 16 then some (rV, M) else thx 15 M)))
def gh_checkBrother (v1 : Int) (M : MM) : OR :=
  (bif cmpB .lt v1 0 then thx 15 M else (bif cmpB .ge v1 (M 3 3) then thx 15 M else (bif cmpB .lt v1 7 then some (rV, M) else thx 15 M)))
def gh_checkAnyPlace  (M : MM) : OR :=
  (bif cmpB .ne (M 3 0) 0 then some (rV, M) else thx 14 M)
def gh_bit (v0 : Int) (v1 : Int) (M : MM) : OR :=
  some (rI (iAnd (iUshr v0 v1) 1), M)
def mo_thrown  (M : MM) : OR :=
  some (rI (M 165 0), M)
def mo_throwsIf (v1 : Int) (v2 : Int) (M : MM) : OR :=
  (bif cmpB .eq v1 0 then (bif zo v1 then some (rI v1, M) else none) else (sM (mU M 165 0 v2) fun M_1 => (bif zo v1 then some (rI v1, M_1) else none)))
def mo_in (v0 : Int) (v1 : Int) (v2 : Int) (M : MM) : OR :=
  (bif cmpB .lt v0 v1 then some (rI 0, M) else (bif cmpB .gt v0 v2 then some (rI 0, M) else some (rI 1, M)))
def mo_has (v0 : Int) (v1 : Int) (M : MM) : OR :=
  (bif cmpB .ne (iAnd (iShr v0 v1) 1) 1 then some (rI 0, M) else some (rI 1, M))
def mo_image_L7  (K1 : MM → OR) : Nat → Int → MM → OR
  | 0, _, _ => none
  | n + 1, v1, M => (bif cmpB .ge v1 1115 then (K1  M) else (bif inB v1 1964 then (bif inB v1 1115 then (sM (mU M 167 (v1).toNat (M 166 (v1).toNat)) fun M_3 => (mo_image_L7  K1 n (v1 + 1) M_3)) else none) else none))
def mo_image  (M : MM) : OR :=
  (sM (mU M 165 0 0) fun M_1 => (mo_image_L7  (fun M_5 => (sM (mU M_5 165 5 1) fun M_7 => some (rV, M_7))) FU 0 M_1))
def mo_back_L16  (K1 : MM → OR) : Nat → Int → MM → OR
  | 0, _, _ => none
  | n + 1, v1, M => (bif cmpB .ge v1 1115 then (K1  M) else (bif inB v1 1115 then (bif inB v1 1964 then (sM (mU M 166 (v1).toNat (M 167 (v1).toNat)) fun M_3 => (mo_back_L16  K1 n (v1 + 1) M_3)) else none) else none))
def mo_back  (M : MM) : OR :=
  (sM (mU M 165 0 0) fun M_1 => (bif cmpB .ne (M_1 165 5) 0 then (mo_back_L16  (fun M_5 => (sM (mU M_5 165 6 0) fun M_7 => some (rI 1, M_7))) FU 0 M_1) else some (rI 0, M_1)))
def mo_remembers_L55  (K1 : MM → OR) : Nat → Int → MM → OR
  | 0, _, _ => none
  | n + 1, v1, M => (bif cmpB .ge v1 266 then (K1  M) else (bif inB v1 1964 then (bif inB ((266 * ((M 165 6) - 1)) + v1) 3192 then (sM (mU M 169 (((266 * ((M 165 6) - 1)) + v1)).toNat (M 166 (v1).toNat)) fun M_3 => (mo_remembers_L55  K1 n (v1 + 1) M_3)) else none) else none))
def mo_remembers_J53   (M : MM) : OR :=
  (mo_remembers_L55  (fun M_5 => some (rV, M_5)) FU 0 M)
def mo_remembers_L11  (K1 : MM → OR) : Nat → Int → MM → OR
  | 0, _, _ => none
  | n + 1, v1, M => (bif cmpB .ge v1 2926 then (K1  M) else (bif inB (v1 + 266) 3192 then (bif inB v1 3192 then (sM (mU M 169 (v1).toNat (M 169 ((v1 + 266)).toNat)) fun M_8 => (mo_remembers_L11  K1 n (v1 + 1) M_8)) else none) else none))
def mo_remembers  (M : MM) : OR :=
  (bif cmpB .ne (M 165 6) 12 then (sM (mU M 165 6 ((M 165 6) + 1)) fun M_1 => (mo_remembers_J53    M_1)) else (mo_remembers_L11  (fun M_10 => (mo_remembers_J53    M_10)) FU 0 M))
def mo_undo_L26  (K1 : MM → OR) : Nat → Int → MM → OR
  | 0, _, _ => none
  | n + 1, v1, M => (bif cmpB .ge v1 266 then (K1  M) else (bif inB ((266 * (M 165 6)) + v1) 3192 then (bif inB v1 1964 then (sM (mU M 166 (v1).toNat (M 169 (((266 * (M 165 6)) + v1)).toNat)) fun M_5 => (mo_undo_L26  K1 n (v1 + 1) M_5)) else none) else none))
def mo_undo  (M : MM) : OR :=
  (sM (mU M 165 0 0) fun M_1 => (bif cmpB .ne (M_1 165 6) 0 then (sM (mU M_1 165 6 ((M_1 165 6) - 1)) fun M_3 => (mo_undo_L26  (fun M_7 => some (rI 1, M_7)) FU 0 M_3)) else some (rI 0, M_1)))
def mo_places  (M : MM) : OR :=
  (bif inB 0 1964 then some (rI (M 166 0), M) else none)
def mo_things  (M : MM) : OR :=
  (bif inB 1 1964 then some (rI (M 166 1), M) else none)
def mo_roads  (M : MM) : OR :=
  (bif inB 2 1964 then some (rI (M 166 2), M) else none)
def mo_brothers  (M : MM) : OR :=
  (bif inB 3 1964 then some (rI (M 166 3), M) else none)
def mo_of (v1 : Int) (v2 : Int) (M : MM) : OR :=
  (bif inB ((10 + (8 * v1)) + v2) 1964 then some (rI (M 166 (((10 + (8 * v1)) + v2)).toNat), M) else none)
def mo_sets (v1 : Int) (v2 : Int) (v3 : Int) (M : MM) : OR :=
  (bif inB ((10 + (8 * v1)) + v2) 1964 then (sM (mU M 166 (((10 + (8 * v1)) + v2)).toNat v3) fun M_1 => some (rV, M_1)) else none)
def mo_ofThing (v1 : Int) (v2 : Int) (M : MM) : OR :=
  (bif inB ((90 + (4 * v1)) + v2) 1964 then some (rI (M 166 (((90 + (4 * v1)) + v2)).toNat), M) else none)
def mo_ofRoad (v1 : Int) (v2 : Int) (M : MM) : OR :=
  (bif inB ((130 + (4 * v1)) + v2) 1964 then some (rI (M 166 (((130 + (4 * v1)) + v2)).toNat), M) else none)
def mo_ofBrother (v1 : Int) (v2 : Int) (M : MM) : OR :=
  (bif inB ((194 + (6 * v1)) + v2) 1964 then some (rI (M 166 (((194 + (6 * v1)) + v2)).toNat), M) else none)
def mo_isKeeper (v1 : Int) (M : MM) : OR :=
  (bI (mo_of v1 0 M) fun z_3 M_2 => (bif cmpB .ne z_3 1 then some (rI 0, M_2) else some (rI 1, M_2)))
def mo_noPlace (v1 : Int) (M : MM) : OR :=
  (bI (mo_places  M) fun z_3 M_2 => (bI (mo_in v1 0 (z_3 - 1) M_2) fun z_6 M_5 => (bif cmpB .ne z_6 0 then some (rI 0, M_5) else some (rI 1, M_5))))
def mo_noThing (v1 : Int) (M : MM) : OR :=
  (bI (mo_things  M) fun z_3 M_2 => (bI (mo_in v1 0 (z_3 - 1) M_2) fun z_6 M_5 => (bif cmpB .ne z_6 0 then some (rI 0, M_5) else some (rI 1, M_5))))
def mo_noRoad (v1 : Int) (M : MM) : OR :=
  (bI (mo_roads  M) fun z_3 M_2 => (bI (mo_in v1 0 (z_3 - 1) M_2) fun z_6 M_5 => (bif cmpB .ne z_6 0 then some (rI 0, M_5) else some (rI 1, M_5))))
def mo_noBrother (v1 : Int) (M : MM) : OR :=
  (bI (mo_brothers  M) fun z_3 M_2 => (bI (mo_in v1 0 (z_3 - 1) M_2) fun z_6 M_5 => (bif cmpB .ne z_6 0 then some (rI 0, M_5) else some (rI 1, M_5))))
def mo_feed_L60  (K1 : MM → OR) : Nat → Int → MM → OR
  | 0, _, _ => none
  | n + 1, v6, M => (bif cmpB .ge v6 20 then (K1  M) else (bif inB ((w32 v6).tdiv (w32 4)) 5 then (bif inB ((M 165 8) + v6) 400 then (sM (mU M 170 (((M 165 8) + v6)).toNat (nB (iB (iShr (M 171 (((w32 v6).tdiv (w32 4))).toNat) (24 - (8 * ((w32 v6).tmod (w32 4)))))))) fun M_13 => (mo_feed_L60  K1 n (v6 + 1) M_13)) else none) else none))
def mo_feed (v1 : Int) (v2 : Int) (v3 : Int) (v4 : Int) (v5 : Int) (M : MM) : OR :=
  (sM (mU M 165 0 0) fun M_1 => (bif cmpB .le ((M_1 165 8) + 20) 400 then (bif inB 0 5 then (sM (mU M_1 171 0 v1) fun M_3 => (bif inB 1 5 then (sM (mU M_3 171 1 v2) fun M_5 => (bif inB 2 5 then (sM (mU M_5 171 2 v3) fun M_7 => (bif inB 3 5 then (sM (mU M_7 171 3 v4) fun M_9 => (bif inB 4 5 then (sM (mU M_9 171 4 v5) fun M_11 => (mo_feed_L60  (fun M_16 => (sM (mU M_16 165 8 ((M_16 165 8) + 20)) fun M_23 => some (rI (M_23 165 8), M_23))) FU 0 M_11)) else none)) else none)) else none)) else none)) else none) else some (rI (-1), M_1)))
def mo_end (v1 : Int) (M : MM) : OR :=
  (sM (mU M 165 0 0) fun M_1 => (bif cmpB .lt v1 0 then some (rI 0, M_1) else (bif cmpB .le v1 (M_1 165 8) then (sM (mU M_1 165 8 v1) fun M_3 => some (rI 1, M_3)) else some (rI 0, M_1))))
def mo_isAt (v1 : Int) (v2 : Int) (M : MM) : OR :=
  (bif cmpB .ge (M 165 9) (M 165 10) then some (rI 0, M) else (bif inB (M 165 9) 400 then (bif cmpB .lt (M 170 ((M 165 9)).toNat) v1 then some (rI 0, M) else (bif inB (M 165 9) 400 then (bif cmpB .gt (M 170 ((M 165 9)).toNat) v2 then some (rI 0, M) else some (rI 1, M)) else none)) else none))
def mo_blanks_L0  (K1 : MM → OR) : Nat → MM → OR
  | 0, _ => none
  | n + 1, M => (bI (mo_isAt 32 32 M) fun z_10 M_9 => (bif cmpB .eq z_10 0 then (K1  M_9) else (sM (mU M_9 165 9 ((M_9 165 9) + 1)) fun M_11 => (mo_blanks_L0  K1 n  M_11))))
def mo_blanks  (M : MM) : OR :=
  (bI (mo_isAt 32 32 M) fun z_3 M_2 => (bif cmpB .eq z_3 0 then (sM (mU M_2 165 11 (M_2 165 9)) fun M_4 => some (rV, M_4)) else (sM (mU M_2 165 9 ((M_2 165 9) + 1)) fun M_6 => (mo_blanks_L0  (fun M_13 => (sM (mU M_13 165 11 (M_13 165 9)) fun M_14 => some (rV, M_14))) FU  M_6))))
def mo_letters_L4  (K1 : MM → OR) : Nat → MM → OR
  | 0, _ => none
  | n + 1, M => (bI (mo_isAt 97 122 M) fun z_6 M_5 => (bif cmpB .eq z_6 0 then (K1  M_5) else (sM (mU M_5 165 9 ((M_5 165 9) + 1)) fun M_7 => (mo_letters_L4  K1 n  M_7))))
def mo_letters  (M : MM) : OR :=
  (bV (mo_blanks  M) fun M_2 => (mo_letters_L4  (fun M_9 => some (rV, M_9)) FU  M_2))
def mo_isWord_L24 (t1 : Nat) (K1 : Int → MM → OR) : Nat → Int → Int → MM → OR
  | 0, _, _, _ => none
  | n + 1, v2, v3, M => (bif cmpB .eq v2 0 then (K1 v2 M) else (bI (jdk_length t1 M) fun z_6 M_5 => (bif cmpB .ge v3 z_6 then (K1 v2 M_5) else (bif inB ((M_5 165 11) + v3) 400 then (bI (jdk_charAt t1 v3 M_5) fun z_9 M_8 => (bif cmpB .ne (M_5 170 (((M_5 165 11) + v3)).toNat) z_9 then (mo_isWord_L24 t1 K1 n 0 (v3 + 1) M_8) else (mo_isWord_L24 t1 K1 n 1 (v3 + 1) M_8))) else none))))
def mo_isWord_J21 (t1 : Nat)  (s0 : Int) (M : MM) : OR :=
  (mo_isWord_L24 t1 (fun v2_10 M_11 => (bif zo v2_10 then some (rI v2_10, M_11) else none)) FU s0 0 M)
def mo_isWord (t1 : Nat) (M : MM) : OR :=
  (bI (jdk_length t1 M) fun z_3 M_2 => (bif cmpB .ne ((M 165 9) - (M 165 11)) z_3 then (mo_isWord_J21 t1  0 M_2) else (mo_isWord_J21 t1  1 M_2)))
def mo_passes (t1 : Nat) (M : MM) : OR :=
  (bV (mo_letters  M) fun M_2 => (bI (mo_isWord t1 M_2) fun z_6 M_5 => (bif cmpB .eq z_6 0 then (sM (mU M_5 165 9 (M_5 165 11)) fun M_7 => some (rI 0, M_7)) else some (rI 1, M_5))))
def mo_isSign (v1 : Int) (M : MM) : OR :=
  (bV (mo_blanks  M) fun M_2 => (bI (mo_isAt v1 v1 M_2) fun z_6 M_5 => (bif cmpB .ne z_6 0 then (sM (mU M_5 165 9 ((M_5 165 9) + 1)) fun M_7 => some (rI 1, M_7)) else some (rI 0, M_5))))
def mo_number_L6  (v1 v2 : Int) (K1 : Int → MM → OR) : Nat → Int → MM → OR
  | 0, _, _ => none
  | n + 1, v3, M => (bI (mo_isAt 48 57 M) fun z_6 M_5 => (bif cmpB .eq z_6 0 then (K1 v3 M_5) else (bif cmpB .ge ((M_5 165 9) - (M_5 165 11)) 3 then (sM (mU M_5 165 9 ((M_5 165 9) + 1)) fun M_7 => (mo_number_L6 v1 v2 K1 n v3 M_7)) else (bif inB (M_5 165 9) 400 then (sM (mU M_5 165 9 ((M_5 165 9) + 1)) fun M_9 => (mo_number_L6 v1 v2 K1 n (((10 * v3) + (M_5 170 ((M_5 165 9)).toNat)) - 48) M_9)) else none))))
def mo_number (v1 : Int) (v2 : Int) (M : MM) : OR :=
  (bV (mo_blanks  M) fun M_2 => (mo_number_L6 v1 v2 (fun v3_11 M_12 => (bif cmpB .eq (M_12 165 9) (M_12 165 11) then some (rI (-1), M_12) else (bif cmpB .gt ((M_12 165 9) - (M_12 165 11)) 3 then some (rI (-1), M_12) else (bif cmpB .lt v3_11 v1 then some (rI (-1), M_12) else (bif cmpB .le v3_11 v2 then some (rI v3_11, M_12) else some (rI (-1), M_12)))))) FU 0 M_2))
def mo_after (t1 : Nat) (v2 : Int) (v3 : Int) (M : MM) : OR :=
  (bV (mo_letters  M) fun M_2 => (bI (mo_isWord t1 M_2) fun z_6 M_5 => (bif cmpB .eq z_6 0 then some (rI (-1), M_5) else (bI (mo_number v2 v3 M_5) fun z_9 M_8 => some (rI z_9, M_8)))))
def mo_fault  (M : MM) : OR :=
  (sM (mU M 165 0 0) fun M_1 => some (rI (M_1 165 13), M_1))
def mo_uses  (M : MM) : OR :=
  (sM (mU M 165 0 0) fun M_1 => (sM (mU M_1 165 10 (M_1 165 8)) fun M_3 => (sM (mU M_3 165 8 0) fun M_5 => (sM (mU M_5 165 9 0) fun M_7 => some (rV, M_7)))))
def mo_placeTold  (M : MM) : OR :=
  (bI (mo_places  M) fun z_3 M_2 => (bI (mo_number 0 (z_3 - 1) M_2) fun z_6 M_5 => some (rI z_6, M_5)))
def mo_readPlace_L15  (v1 : Int) (K1 : MM → OR) : Nat → Int → MM → OR
  | 0, _, _ => none
  | n + 1, v2, M => (bif cmpB .ge v2 8 then (K1  M) else (bV (mo_sets v1 v2 0 M) fun M_5 => (mo_readPlace_L15 v1 K1 n (v2 + 1) M_5)))
def mo_readPlace  (M : MM) : OR :=
  (bI (mo_places  M) fun z_3 M_2 => (bif cmpB .ne z_3 10 then (mo_readPlace_L15 z_3 (fun M_7 => (bV (mo_sets z_3 3 (-1) M_7) fun M_10 => (bV (mo_sets z_3 4 (-1) M_10) fun M_13 => (bV (mo_sets z_3 6 (-1) M_13) fun M_16 => (bif inB 0 1964 then (bif inB 0 1964 then (sM (mU M_16 166 0 ((M_16 166 0) + 1)) fun M_18 => some (rI 1, M_18)) else none) else none))))) FU 0 M_2) else some (rI 0, M_2)))
def mo_appends (v1 : Int) (v2 : Int) (v3 : Int) (v4 : Int) (M : MM) : OR :=
  (bI (mo_things  M) fun z_3 M_2 => (bif inB ((90 + (4 * z_3)) + 0) 1964 then (sM (mU M_2 166 (((90 + (4 * z_3)) + 0)).toNat v1) fun M_4 => (bif inB ((90 + (4 * z_3)) + 1) 1964 then (sM (mU M_4 166 (((90 + (4 * z_3)) + 1)).toNat v2) fun M_6 => (bif inB ((90 + (4 * z_3)) + 2) 1964 then (sM (mU M_6 166 (((90 + (4 * z_3)) + 2)).toNat v3) fun M_8 => (bif inB ((90 + (4 * z_3)) + 3) 1964 then (sM (mU M_8 166 (((90 + (4 * z_3)) + 3)).toNat v4) fun M_10 => (bif inB 1 1964 then (bif inB 1 1964 then (sM (mU M_10 166 1 ((M_10 166 1) + 1)) fun M_12 => some (rV, M_12)) else none) else none)) else none)) else none)) else none)) else none))
def mo_readThing_J36   (v1 s0 : Int) (M : MM) : OR :=
  (bif cmpB .ge s0 0 then (bI (mo_places  M) fun z_12 M_11 => (bI (mo_after 55 0 (z_12 - 1) M_11) fun z_15 M_14 => (bif cmpB .lt z_15 0 then (bif cmpB .lt z_15 0 then some (rI 0, M_14) else some (rI 1, M_14)) else (bV (mo_appends v1 s0 0 z_15 M_14) fun M_17 => (bif cmpB .lt z_15 0 then some (rI 0, M_17) else some (rI 1, M_17)))))) else some (rI 0, M))
def mo_readThing  (M : MM) : OR :=
  (bI (mo_things  M) fun z_3 M_2 => (bif cmpB .ne z_3 10 then (bI (mo_number 0 15 M_2) fun z_6 M_5 => (bif cmpB .ge z_6 0 then (bI (mo_after 54 1 99 M_5) fun z_9 M_8 => (mo_readThing_J36   z_6 z_9 M_8)) else (mo_readThing_J36   z_6 (-1) M_5))) else some (rI 0, M_2)))
def mo_readRoad_J90   (v1 v2 v3 v4 s0 : Int) (M : MM) : OR :=
  (bif cmpB .ge s0 0 then (bif inB v1 1964 then (sM (mU M 166 (v1).toNat v2) fun M_19 => (bif inB (v1 + 1) 1964 then (sM (mU M_19 166 ((v1 + 1)).toNat v3) fun M_21 => (bif inB (v1 + 2) 1964 then (sM (mU M_21 166 ((v1 + 2)).toNat v4) fun M_23 => (bif inB (v1 + 3) 1964 then (sM (mU M_23 166 ((v1 + 3)).toNat s0) fun M_25 => (bif inB 2 1964 then (bif inB 2 1964 then (sM (mU M_25 166 2 ((M_25 166 2) + 1)) fun M_27 => some (rI 1, M_27)) else none) else none)) else none)) else none)) else none)) else none) else some (rI 0, M))
def mo_readRoad_J39   (v1 v2 s0 : Int) (M : MM) : OR :=
  (bif cmpB .lt s0 0 then some (rI 0, M) else (bif cmpB .ne v2 s0 then (bI (mo_after 57 1 9 M) fun z_15 M_14 => (bif cmpB .ge z_15 0 then (bI (mo_passes 58 M_14) fun z_18 M_17 => (bif cmpB .eq z_18 0 then (mo_readRoad_J90   v1 v2 s0 z_15 100 M_17) else (bI (mo_number 1 100 M_17) fun z_31 M_30 => (mo_readRoad_J90   v1 v2 s0 z_15 z_31 M_30)))) else some (rI 0, M_14))) else some (rI 0, M)))
def mo_readRoad  (M : MM) : OR :=
  (bI (mo_roads  M) fun z_3 M_2 => (bI (mo_roads  M_2) fun z_6 M_5 => (bif cmpB .ne z_6 16 then (bI (mo_placeTold  M_5) fun z_9 M_8 => (bif cmpB .ge z_9 0 then (bI (mo_placeTold  M_8) fun z_12 M_11 => (mo_readRoad_J39   (130 + (4 * z_3)) z_9 z_12 M_11)) else (mo_readRoad_J39   (130 + (4 * z_3)) z_9 (-1) M_8))) else some (rI 0, M_5))))
def mo_readEating_J25   (v1 v2 s0 : Int) (M : MM) : OR :=
  (bV (mo_sets v1 3 v2 M) fun M_8 => (bV (mo_sets v1 4 s0 M_8) fun M_11 => (bif cmpB .lt s0 0 then some (rI 0, M_11) else some (rI 1, M_11))))
def mo_readEating (v1 : Int) (M : MM) : OR :=
  (bI (mo_number 0 23 M) fun z_3 M_2 => (bif cmpB .ge z_3 0 then (bI (mo_after 62 z_3 23 M_2) fun z_6 M_5 => (mo_readEating_J25   v1 z_3 z_6 M_5)) else (mo_readEating_J25   v1 z_3 (-1) M_2)))
def mo_readHaving_J36   (v1 v2 s0 : Int) (M : MM) : OR :=
  (bif cmpB .ge s0 0 then (bI (mo_things  M) fun z_12 M_11 => (bV (mo_sets v1 6 z_12 M_11) fun M_14 => (bV (mo_appends v2 s0 1 v1 M_14) fun M_17 => some (rI 1, M_17)))) else some (rI 0, M))
def mo_readHaving (v1 : Int) (M : MM) : OR :=
  (bI (mo_things  M) fun z_3 M_2 => (bif cmpB .ne z_3 10 then (bI (mo_number 0 15 M_2) fun z_6 M_5 => (bif cmpB .ge z_6 0 then (bI (mo_after 54 1 99 M_5) fun z_9 M_8 => (mo_readHaving_J36   v1 z_6 z_9 M_8)) else (mo_readHaving_J36   v1 z_6 (-1) M_5))) else some (rI 0, M_2)))
def mo_readKeeper_J91   (v1 : Int) (M : MM) : OR :=
  (bI (mo_passes 63 M) fun z_27 M_26 => (bif cmpB .eq z_27 0 then (bV (mo_sets v1 5 0 M_26) fun M_29 => (bI (mo_passes 64 M_29) fun z_33 M_32 => (bif cmpB .eq z_33 0 then some (rI 1, M_32) else (bI (mo_readHaving v1 M_32) fun z_36 M_35 => (bif cmpB .eq z_36 0 then some (rI 0, M_35) else some (rI 1, M_35)))))) else (bV (mo_sets v1 5 1 M_26) fun M_38 => (bI (mo_passes 64 M_38) fun z_42 M_41 => (bif cmpB .eq z_42 0 then some (rI 1, M_41) else (bI (mo_readHaving v1 M_41) fun z_45 M_44 => (bif cmpB .eq z_45 0 then some (rI 0, M_44) else some (rI 1, M_44))))))))
def mo_readKeeper_J44   (v1 v2 s0 : Int) (M : MM) : OR :=
  (bif cmpB .ge s0 0 then (bV (mo_sets v1 0 1 M) fun M_14 => (bV (mo_sets v1 1 v2 M_14) fun M_17 => (bV (mo_sets v1 2 s0 M_17) fun M_20 => (bI (mo_passes 61 M_20) fun z_24 M_23 => (bif cmpB .eq z_24 0 then (mo_readKeeper_J91   v1 M_23) else (bI (mo_readEating v1 M_23) fun z_48 M_47 => (bif cmpB .ne z_48 0 then (mo_readKeeper_J91   v1 M_47) else some (rI 0, M_47)))))))) else some (rI 0, M))
def mo_readKeeper  (M : MM) : OR :=
  (bI (mo_placeTold  M) fun z_3 M_2 => (bif cmpB .lt z_3 0 then some (rI 0, M_2) else (bI (mo_isKeeper z_3 M_2) fun z_6 M_5 => (bif cmpB .eq z_6 0 then (bI (mo_after 60 0 15 M_5) fun z_9 M_8 => (bif cmpB .ge z_9 0 then (bI (mo_number 0 15 M_8) fun z_12 M_11 => (mo_readKeeper_J44   z_3 z_9 z_12 M_11)) else (mo_readKeeper_J44   z_3 z_9 (-1) M_8))) else some (rI 0, M_5)))))
def mo_readBrother_J102   (v1 v2 v3 v4 v5 s0 : Int) (M : MM) : OR :=
  (bif cmpB .ge s0 0 then (bif inB v1 1964 then (sM (mU M 166 (v1).toNat v2) fun M_22 => (bif inB (v1 + 1) 1964 then (sM (mU M_22 166 ((v1 + 1)).toNat v3) fun M_24 => (bif inB (v1 + 2) 1964 then (sM (mU M_24 166 ((v1 + 2)).toNat v4) fun M_26 => (bif inB (v1 + 3) 1964 then (sM (mU M_26 166 ((v1 + 3)).toNat v5) fun M_28 => (bif inB (v1 + 4) 1964 then (sM (mU M_28 166 ((v1 + 4)).toNat s0) fun M_30 => (bif inB (v1 + 5) 1964 then (sM (mU M_30 166 ((v1 + 5)).toNat (-1)) fun M_32 => (bif inB 3 1964 then (bif inB 3 1964 then (sM (mU M_32 166 3 ((M_32 166 3) + 1)) fun M_34 => some (rI 1, M_34)) else none) else none)) else none)) else none)) else none)) else none)) else none)) else none) else some (rI 0, M))
def mo_readBrother_J81   (v1 v2 v3 v4 s0 : Int) (M : MM) : OR :=
  (bif cmpB .ge s0 0 then (bI (mo_after 67 0 999 M) fun z_21 M_20 => (mo_readBrother_J102   v1 v2 v3 v4 s0 z_21 M_20)) else (mo_readBrother_J102   v1 v2 v3 v4 s0 (-1) M))
def mo_readBrother_J61   (v1 v2 v3 s0 : Int) (M : MM) : OR :=
  (bif cmpB .ge s0 0 then (bI (mo_after 66 0 99 M) fun z_18 M_17 => (mo_readBrother_J81   v1 v2 v3 s0 z_18 M_17)) else (mo_readBrother_J81   v1 v2 v3 s0 (-1) M))
def mo_readBrother_J45   (v1 v2 s0 : Int) (M : MM) : OR :=
  (bif cmpB .ge s0 0 then (bI (mo_number 0 15 M) fun z_15 M_14 => (mo_readBrother_J61   v1 v2 s0 z_15 M_14)) else (mo_readBrother_J61   v1 v2 s0 (-1) M))
def mo_readBrother  (M : MM) : OR :=
  (bI (mo_brothers  M) fun z_3 M_2 => (bI (mo_brothers  M_2) fun z_6 M_5 => (bif cmpB .ne z_6 7 then (bI (mo_placeTold  M_5) fun z_9 M_8 => (bif cmpB .ge z_9 0 then (bI (mo_after 60 0 15 M_8) fun z_12 M_11 => (mo_readBrother_J45   (194 + (6 * z_3)) z_9 z_12 M_11)) else (mo_readBrother_J45   (194 + (6 * z_3)) z_9 (-1) M_8))) else some (rI 0, M_5))))
def mo_readTaleLine  (M : MM) : OR :=
  (bI (mo_isWord 52 M) fun z_3 M_2 => (bif cmpB .eq z_3 0 then (bI (mo_isWord 53 M_2) fun z_6 M_5 => (bif cmpB .eq z_6 0 then (bI (mo_isWord 56 M_5) fun z_9 M_8 => (bif cmpB .eq z_9 0 then (bI (mo_isWord 59 M_8) fun z_12 M_11 => (bif cmpB .eq z_12 0 then (bI (mo_isWord 65 M_11) fun z_15 M_14 => (bif cmpB .eq z_15 0 then some (rI 0, M_14) else (bI (mo_readBrother  M_14) fun z_18 M_17 => (bif cmpB .eq z_18 0 then some (rI 0, M_17) else some (rI 1, M_17))))) else (bI (mo_readKeeper  M_11) fun z_21 M_20 => (bif zo z_21 then some (rI z_21, M_20) else none)))) else (bI (mo_readRoad  M_8) fun z_24 M_23 => (bif zo z_24 then some (rI z_24, M_23) else none)))) else (bI (mo_readThing  M_5) fun z_27 M_26 => (bif zo z_27 then some (rI z_27, M_26) else none)))) else (bI (mo_readPlace  M_2) fun z_30 M_29 => (bif zo z_30 then some (rI z_30, M_29) else none))))
def mo_emits (v1 : Int) (v2 : Int) (M : MM) : OR :=
  (bif inB (1164 + (2 * (M 165 15))) 1964 then (sM (mU M 166 ((1164 + (2 * (M 165 15)))).toNat v1) fun M_1 => (bif inB ((1164 + (2 * (M_1 165 15))) + 1) 1964 then (sM (mU M_1 166 (((1164 + (2 * (M_1 165 15))) + 1)).toNat v2) fun M_3 => (sM (mU M_3 165 15 ((M_3 165 15) + 1)) fun M_5 => some (rV, M_5))) else none)) else none)
def mo_readPart  (M : MM) : OR :=
  (bV (mo_letters  M) fun M_2 => (bif cmpB .ne (M_2 165 9) (M_2 165 11) then (bI (mo_isWord 56 M_2) fun z_6 M_5 => (bif cmpB .eq z_6 0 then (bI (mo_isWord 73 M_5) fun z_9 M_8 => (bif cmpB .eq z_9 0 then (bI (mo_isWord 62 M_8) fun z_12 M_11 => (bif cmpB .eq z_12 0 then (bI (mo_isWord 74 M_11) fun z_15 M_14 => (bif cmpB .eq z_15 0 then (bI (mo_isWord 75 M_14) fun z_18 M_17 => (bif cmpB .eq z_18 0 then (bI (mo_isWord 76 M_17) fun z_21 M_20 => (bif cmpB .eq z_21 0 then (bI (mo_isWord 54 M_20) fun z_24 M_23 => (bif cmpB .eq z_24 0 then (bV (mo_emits (-1) 0 M_23) fun M_26 => some (rI 0, M_26)) else (bV (mo_emits 6 0 M_23) fun M_29 => some (rI 1, M_29)))) else (bV (mo_emits 5 0 M_20) fun M_32 => some (rI 1, M_32)))) else (bV (mo_emits 4 0 M_17) fun M_35 => some (rI 1, M_35)))) else (bV (mo_emits 3 0 M_14) fun M_38 => some (rI 1, M_38)))) else (bV (mo_emits 2 0 M_11) fun M_41 => some (rI 1, M_41)))) else (bV (mo_emits 1 0 M_8) fun M_44 => some (rI 1, M_44)))) else (bV (mo_emits 0 0 M_5) fun M_47 => some (rI 1, M_47)))) else (bI (mo_number 0 999 M_2) fun z_51 M_50 => (bV (mo_emits 8 z_51 M_50) fun M_53 => (bif cmpB .lt z_51 0 then some (rI 0, M_53) else some (rI 1, M_53))))))
def mo_readSum_L9  (K1 : MM → OR) (K2 : MM → OR) : Nat → MM → OR
  | 0, _ => none
  | n + 1, M => (bI (mo_isSign 43 M) fun z_6 M_5 => (bif cmpB .eq z_6 0 then (K1  M_5) else (bI (mo_readPart  M_5) fun z_9 M_8 => (bif cmpB .ne z_9 0 then (bV (mo_emits 9 0 M_8) fun M_11 => (mo_readSum_L9  K1 K2 n  M_11)) else (K2  M_8)))))
def mo_readSum  (M : MM) : OR :=
  (bI (mo_readPart  M) fun z_3 M_2 => (bif cmpB .ne z_3 0 then (mo_readSum_L9  (fun M_13 => some (rI 1, M_13)) (fun M_15 => some (rI 0, M_15)) FU  M_2) else some (rI 0, M_2)))
def mo_readAllOf_L9 (R : MM → OR)  (K1 : MM → OR) (K2 : MM → OR) : Nat → MM → OR
  | 0, _ => none
  | n + 1, M => (bI (mo_passes 77 M) fun z_6 M_5 => (bif cmpB .eq z_6 0 then (K1  M_5) else (bI (R  M_5) fun z_9 M_8 => (bif cmpB .ne z_9 0 then (bV (mo_emits 13 0 M_8) fun M_11 => (mo_readAllOf_L9 R K1 K2 n  M_11)) else (K2  M_8)))))
def mo_readAllOf (R : MM → OR)  (M : MM) : OR :=
  (bI (R  M) fun z_3 M_2 => (bif cmpB .ne z_3 0 then (mo_readAllOf_L9 R (fun M_13 => some (rI 1, M_13)) (fun M_15 => some (rI 0, M_15)) FU  M_2) else some (rI 0, M_2)))
def mo_readCond_L9 (R : MM → OR)  (K1 : MM → OR) (K2 : MM → OR) : Nat → MM → OR
  | 0, _ => none
  | n + 1, M => (bI (mo_passes 78 M) fun z_6 M_5 => (bif cmpB .eq z_6 0 then (K1  M_5) else (bI (mo_readAllOf R M_5) fun z_9 M_8 => (bif cmpB .ne z_9 0 then (bV (mo_emits 14 0 M_8) fun M_11 => (mo_readCond_L9 R K1 K2 n  M_11)) else (K2  M_8)))))
def mo_readCond (R : MM → OR)  (M : MM) : OR :=
  (bI (mo_readAllOf R M) fun z_3 M_2 => (bif cmpB .ne z_3 0 then (mo_readCond_L9 R (fun M_13 => some (rI 1, M_13)) (fun M_15 => some (rI 0, M_15)) FU  M_2) else some (rI 0, M_2)))
def mo_field (v0 : Int) (v2 : Int) (v3 : Int) (M : MM) : OR :=
  some (rI (iAnd (lShr v0 v2) ((iShl 1 v3) - 1)), M)
def mo_hoursOf (v0 : Int) (M : MM) : OR :=
  (bI (mo_field v0 0 5 M) fun z_3 M_2 => some (rI z_3, M_2))
def mo_placeOf (v0 : Int) (M : MM) : OR :=
  (bI (mo_field v0 5 4 M) fun z_3 M_2 => some (rI z_3, M_2))
def mo_roadOf (v0 : Int) (M : MM) : OR :=
  (bI (mo_field v0 9 5 M) fun z_3 M_2 => some (rI (z_3 - 1), M_2))
def mo_stateOf (v0 : Int) (v2 : Int) (M : MM) : OR :=
  (bI (mo_field v0 (14 + (2 * v2)) 2 M) fun z_3 M_2 => some (rI z_3, M_2))
def mo_passedIn (v0 : Int) (M : MM) : OR :=
  (bI (mo_field v0 34 10 M) fun z_3 M_2 => some (rI z_3, M_2))
def mo_freedIn (v0 : Int) (M : MM) : OR :=
  (bI (mo_field v0 44 7 M) fun z_3 M_2 => some (rI z_3, M_2))
def mo_with (v0 : Int) (v2 : Int) (v3 : Int) (v4 : Int) (M : MM) : OR :=
  some (rJ (lOr (lAnd v0 (lXor (lShl ((lShl 1 v3) - 1) v2) (-1))) (lShl (w32 v4) v2)), M)
def mo_withState (v0 : Int) (v2 : Int) (v3 : Int) (M : MM) : OR :=
  (bJ (mo_with v0 (14 + (2 * v2)) 2 v3 M) fun z_3 M_2 => some (rJ z_3, M_2))
def mo_passedNow_L4  (K1 : Int → MM → OR) : Nat → Int → Int → MM → OR
  | 0, _, _, _ => none
  | n + 1, v1, v2, M => (bI (mo_places  M) fun z_3 M_2 => (bif cmpB .ge v2 z_3 then (K1 v1 M_2) else (bI (mo_of v2 7 M_2) fun z_6 M_5 => (bif cmpB .ne z_6 1 then (mo_passedNow_L4  K1 n (iOr v1 0) (v2 + 1) M_5) else (mo_passedNow_L4  K1 n (iOr v1 (iShl 1 v2)) (v2 + 1) M_5)))))
def mo_passedNow  (M : MM) : OR :=
  (mo_passedNow_L4  (fun v1_7 M_8 => some (rI v1_7, M_8)) FU 0 0 M)
def mo_freedNow_L4  (K1 : Int → MM → OR) : Nat → Int → Int → MM → OR
  | 0, _, _, _ => none
  | n + 1, v1, v2, M => (bI (mo_brothers  M) fun z_3 M_2 => (bif cmpB .ge v2 z_3 then (K1 v1 M_2) else (bI (mo_ofBrother v2 5 M_2) fun z_6 M_5 => (bif cmpB .lt z_6 0 then (mo_freedNow_L4  K1 n (iOr v1 0) (v2 + 1) M_5) else (mo_freedNow_L4  K1 n (iOr v1 (iShl 1 v2)) (v2 + 1) M_5)))))
def mo_freedNow  (M : MM) : OR :=
  (mo_freedNow_L4  (fun v1_7 M_8 => some (rI v1_7, M_8)) FU 0 0 M)
def mo_now_L33  (K1 : Int → MM → OR) : Nat → Int → Int → MM → OR
  | 0, _, _, _ => none
  | n + 1, v1, v3, M => (bI (mo_things  M) fun z_9 M_8 => (bif cmpB .ge v3 z_9 then (K1 v1 M_8) else (bI (mo_ofThing v3 2 M_8) fun z_12 M_11 => (bJ (mo_withState v1 v3 z_12 M_11) fun z_15 M_14 => (mo_now_L33  K1 n z_15 (v3 + 1) M_14)))))
def mo_now  (M : MM) : OR :=
  (bif inB 7 1964 then (bJ (mo_with 0 5 4 (M 166 7) M) fun z_3 M_2 => (bif inB 8 1964 then (bJ (mo_with z_3 9 5 ((M_2 166 8) + 1) M_2) fun z_6 M_5 => (mo_now_L33  (fun v1_16 M_17 => (bI (mo_passedNow  M_17) fun z_21 M_20 => (bJ (mo_with v1_16 34 10 z_21 M_20) fun z_24 M_23 => (bI (mo_freedNow  M_23) fun z_27 M_26 => (bJ (mo_with z_24 44 7 z_27 M_26) fun z_30 M_29 => some (rJ z_30, M_29)))))) FU z_6 0 M_5)) else none)) else none)
def mo_comes_L38  (v1 : Int) (K1 : MM → OR) : Nat → Int → MM → OR
  | 0, _, _ => none
  | n + 1, v3, M => (bI (mo_things  M) fun z_18 M_17 => (bif cmpB .ge v3 z_18 then (K1  M_17) else (bI (mo_stateOf v1 v3 M_17) fun z_21 M_20 => (bif inB ((90 + (4 * v3)) + 2) 1964 then (sM (mU M_20 166 (((90 + (4 * v3)) + 2)).toNat z_21) fun M_22 => (mo_comes_L38 v1 K1 n (v3 + 1) M_22)) else none))))
def mo_comes_L72  (v1 : Int) (K1 : MM → OR) : Nat → Int → MM → OR
  | 0, _, _ => none
  | n + 1, v3, M => (bI (mo_places  M) fun z_28 M_27 => (bif cmpB .ge v3 z_28 then (K1  M_27) else (bI (mo_passedIn v1 M_27) fun z_31 M_30 => (bV (mo_sets v3 7 (iAnd (iShr z_31 v3) 1) M_30) fun M_33 => (mo_comes_L72 v1 K1 n (v3 + 1) M_33)))))
def mo_comes_L103  (v1 : Int) (K1 : MM → OR) : Nat → Int → MM → OR
  | 0, _, _ => none
  | n + 1, v3, M => (bI (mo_brothers  M) fun z_39 M_38 => (bif cmpB .ge v3 z_39 then (K1  M_38) else (bI (mo_freedIn v1 M_38) fun z_42 M_41 => (bI (mo_has z_42 v3 M_41) fun z_45 M_44 => (bif cmpB .eq z_45 0 then (mo_comes_L103 v1 K1 n (v3 + 1) M_44) else (bI (mo_ofBrother v3 5 M_44) fun z_48 M_47 => (bif cmpB .ge z_48 0 then (mo_comes_L103 v1 K1 n (v3 + 1) M_47) else (bif inB 6 1964 then (bif inB ((194 + (6 * v3)) + 5) 1964 then (sM (mU M_47 166 (((194 + (6 * v3)) + 5)).toNat (M_47 166 6)) fun M_49 => (mo_comes_L103 v1 K1 n (v3 + 1) M_49)) else none) else none))))))))
def mo_comes (v1 : Int) (M : MM) : OR :=
  (bif inB 6 1964 then (bI (mo_hoursOf v1 M) fun z_3 M_2 => (bif inB 6 1964 then (sM (mU M_2 166 6 ((M 166 6) + z_3)) fun M_4 => (bI (mo_placeOf v1 M_4) fun z_8 M_7 => (bif inB 7 1964 then (sM (mU M_7 166 7 z_8) fun M_9 => (bI (mo_roadOf v1 M_9) fun z_13 M_12 => (bif inB 8 1964 then (sM (mU M_12 166 8 z_13) fun M_14 => (mo_comes_L38 v1 (fun M_24 => (mo_comes_L72 v1 (fun M_35 => (mo_comes_L103 v1 (fun M_51 => some (rV, M_51)) FU 0 M_35)) FU 0 M_24)) FU 0 M_14)) else none))) else none))) else none)) else none)
def mo_thingsIn_L6  (v1 v3 : Int) (K1 : Int → MM → OR) : Nat → Int → Int → MM → OR
  | 0, _, _, _ => none
  | n + 1, v4, v5, M => (bI (mo_things  M) fun z_3 M_2 => (bif cmpB .ge v5 z_3 then (K1 v4 M_2) else (bI (mo_stateOf v1 v5 M_2) fun z_6 M_5 => (bif cmpB .ne z_6 v3 then (mo_thingsIn_L6 v1 v3 K1 n (iOr v4 0) (v5 + 1) M_5) else (mo_thingsIn_L6 v1 v3 K1 n (iOr v4 (iShl 1 v5)) (v5 + 1) M_5)))))
def mo_thingsIn (v1 : Int) (v3 : Int) (M : MM) : OR :=
  (mo_thingsIn_L6 v1 v3 (fun v4_7 M_8 => some (rI v4_7, M_8)) FU 0 0 M)
def mo_worthOf_L4  (v1 : Int) (K1 : Int → MM → OR) : Nat → Int → Int → MM → OR
  | 0, _, _, _ => none
  | n + 1, v2, v3, M => (bI (mo_things  M) fun z_3 M_2 => (bif cmpB .ge v3 z_3 then (K1 v2 M_2) else (bI (mo_has v1 v3 M_2) fun z_6 M_5 => (bif cmpB .eq z_6 0 then (mo_worthOf_L4 v1 K1 n (v2 + 0) (v3 + 1) M_5) else (bI (mo_ofThing v3 1 M_5) fun z_9 M_8 => (mo_worthOf_L4 v1 K1 n (v2 + z_9) (v3 + 1) M_8))))))
def mo_worthOf (v1 : Int) (M : MM) : OR :=
  (mo_worthOf_L4 v1 (fun v2_10 M_11 => some (rI v2_10, M_11)) FU 0 0 M)
def mo_isFit (v0 : Int) (v1 : Int) (v2 : Int) (M : MM) : OR :=
  (bif cmpB .ne (iAnd v0 v1) v2 then some (rI 0, M) else some (rI 1, M))
def mo_fitsKeeper (v1 : Int) (v2 : Int) (M : MM) : OR :=
  (bI (mo_ofThing v1 0 M) fun z_3 M_2 => (bI (mo_of v2 1 M_2) fun z_6 M_5 => (bI (mo_of v2 2 M_5) fun z_9 M_8 => (bI (mo_isFit z_3 z_6 z_9 M_8) fun z_12 M_11 => (bif zo z_12 then some (rI z_12, M_11) else none)))))
def mo_fitsBrother (v1 : Int) (v2 : Int) (M : MM) : OR :=
  (bI (mo_ofThing v1 0 M) fun z_3 M_2 => (bI (mo_ofBrother v2 1 M_2) fun z_6 M_5 => (bI (mo_ofBrother v2 2 M_5) fun z_9 M_8 => (bI (mo_isFit z_3 z_6 z_9 M_8) fun z_12 M_11 => (bif zo z_12 then some (rI z_12, M_11) else none)))))
def mo_factOf (v1 : Int) (v2 : Int) (M : MM) : OR :=
  (bif cmpB .eq v1 0 then some (rI (M 165 17), M) else (bif cmpB .eq v1 1 then some (rI (M 165 18), M) else (bif cmpB .eq v1 2 then some (rI (M 165 19), M) else (bif cmpB .eq v1 3 then some (rI ((w32 (M 165 20)).tmod (w32 24)), M) else (bif cmpB .eq v1 4 then some (rI ((w32 (M 165 20)).tdiv (w32 24)), M) else (bif cmpB .eq v1 5 then some (rI (M 165 21), M) else (bif cmpB .eq v1 6 then some (rI (M 165 22), M) else (bif cmpB .eq v1 7 then (bif cmpB .lt ((w32 (M 165 20)).tmod (w32 24)) 6 then some (rI 1, M) else (bif cmpB .le ((w32 (M 165 20)).tmod (w32 24)) 19 then some (rI 0, M) else some (rI 1, M))) else some (rI v2, M)))))))))
def mo_holdsLine_J218  (v3 : Int) (Kb : Int → Int → MM → OR) (K1 : Int → MM → OR) (v2 v4 v5 v6 v7 s0 : Int) (M : MM) : OR :=
  (bif cmpB .ne v5 9 then (bif cmpB .eq s0 0 then (bif inB (v2 - 1) 400 then (sM (mU M 172 ((v2 - 1)).toNat 0) fun M_2 => (Kb v2 (v4 + 1) M_2)) else none) else (bif inB (v2 - 1) 400 then (sM (mU M 172 ((v2 - 1)).toNat 1) fun M_4 => (Kb v2 (v4 + 1) M_4)) else none)) else (bif inB (v2 - 1) 400 then (sM (mU M 172 ((v2 - 1)).toNat (v6 + v7)) fun M_6 => (Kb v2 (v4 + 1) M_6)) else none))
def mo_holdsLine_L20  (v3 : Int) (K1 : Int → MM → OR) : Nat → Int → Int → MM → OR
  | 0, _, _, _ => none
  | n + 1, v2, v4, M => (bif inB (v3 + 3) 1964 then (bif cmpB .ge v4 (M 166 ((v3 + 3)).toNat) then (K1 v2 M) else (bif inB (315 + (2 * v4)) 1964 then (bif cmpB .gt (M 166 ((315 + (2 * v4))).toNat) 8 then (bif cmpB .ne (M 166 ((315 + (2 * v4))).toNat) 12 then (bif inB ((v2 + (-1)) - 1) 400 then (bif inB (v2 + (-1)) 400 then (bif cmpB .ne (M 166 ((315 + (2 * v4))).toNat) 10 then (bif cmpB .ne (M 166 ((315 + (2 * v4))).toNat) 11 then (bif cmpB .ne (M 166 ((315 + (2 * v4))).toNat) 13 then (bif cmpB .le ((M 172 (((v2 + (-1)) - 1)).toNat) + (M 172 ((v2 + (-1))).toNat)) 0 then (mo_holdsLine_J218 v3 (mo_holdsLine_L20 v3 K1 n) K1 (v2 + (-1)) v4 (M 166 ((315 + (2 * v4))).toNat) (M 172 (((v2 + (-1)) - 1)).toNat) (M 172 ((v2 + (-1))).toNat) 0 M) else (mo_holdsLine_J218 v3 (mo_holdsLine_L20 v3 K1 n) K1 (v2 + (-1)) v4 (M 166 ((315 + (2 * v4))).toNat) (M 172 (((v2 + (-1)) - 1)).toNat) (M 172 ((v2 + (-1))).toNat) 1 M)) else (bif cmpB .ne ((M 172 (((v2 + (-1)) - 1)).toNat) + (M 172 ((v2 + (-1))).toNat)) 2 then (mo_holdsLine_J218 v3 (mo_holdsLine_L20 v3 K1 n) K1 (v2 + (-1)) v4 (M 166 ((315 + (2 * v4))).toNat) (M 172 (((v2 + (-1)) - 1)).toNat) (M 172 ((v2 + (-1))).toNat) 0 M) else (mo_holdsLine_J218 v3 (mo_holdsLine_L20 v3 K1 n) K1 (v2 + (-1)) v4 (M 166 ((315 + (2 * v4))).toNat) (M 172 (((v2 + (-1)) - 1)).toNat) (M 172 ((v2 + (-1))).toNat) 1 M))) else (bif cmpB .le (M 172 (((v2 + (-1)) - 1)).toNat) (M 172 ((v2 + (-1))).toNat) then (mo_holdsLine_J218 v3 (mo_holdsLine_L20 v3 K1 n) K1 (v2 + (-1)) v4 (M 166 ((315 + (2 * v4))).toNat) (M 172 (((v2 + (-1)) - 1)).toNat) (M 172 ((v2 + (-1))).toNat) 0 M) else (mo_holdsLine_J218 v3 (mo_holdsLine_L20 v3 K1 n) K1 (v2 + (-1)) v4 (M 166 ((315 + (2 * v4))).toNat) (M 172 (((v2 + (-1)) - 1)).toNat) (M 172 ((v2 + (-1))).toNat) 1 M))) else (bif cmpB .ge (M 172 (((v2 + (-1)) - 1)).toNat) (M 172 ((v2 + (-1))).toNat) then (mo_holdsLine_J218 v3 (mo_holdsLine_L20 v3 K1 n) K1 (v2 + (-1)) v4 (M 166 ((315 + (2 * v4))).toNat) (M 172 (((v2 + (-1)) - 1)).toNat) (M 172 ((v2 + (-1))).toNat) 0 M) else (mo_holdsLine_J218 v3 (mo_holdsLine_L20 v3 K1 n) K1 (v2 + (-1)) v4 (M 166 ((315 + (2 * v4))).toNat) (M 172 (((v2 + (-1)) - 1)).toNat) (M 172 ((v2 + (-1))).toNat) 1 M))) else none) else none) else (bif inB (v2 - 1) 400 then (bif inB (v2 - 1) 400 then (sM (mU M 172 ((v2 - 1)).toNat (1 - (M 172 ((v2 - 1)).toNat))) fun M_8 => (mo_holdsLine_L20 v3 K1 n v2 (v4 + 1) M_8)) else none) else none)) else (bif inB ((315 + (2 * v4)) + 1) 1964 then (bI (mo_factOf (M 166 ((315 + (2 * v4))).toNat) (M 166 (((315 + (2 * v4)) + 1)).toNat) M) fun z_12 M_11 => (bif inB v2 400 then (sM (mU M_11 172 (v2).toNat z_12) fun M_13 => (mo_holdsLine_L20 v3 K1 n (v2 + 1) (v4 + 1) M_13)) else none)) else none)) else none)) else none)
def mo_holdsLine (v1 : Int) (M : MM) : OR :=
  (bif inB ((267 + (4 * v1)) + 2) 1964 then (mo_holdsLine_L20 (267 + (4 * v1)) (fun v2_16 M_17 => (bif cmpB .eq v2_16 0 then some (rI 1, M_17) else (bif inB 0 400 then (bif cmpB .ne (M_17 172 0) 1 then some (rI 0, M_17) else some (rI 1, M_17)) else none))) FU 0 (M 166 (((267 + (4 * v1)) + 2)).toNat) M) else none)
def mo_sumOf_L4  (v1 : Int) (K1 : Int → MM → OR) : Nat → Int → Int → MM → OR
  | 0, _, _, _ => none
  | n + 1, v2, v3, M => (bif inB 5 1964 then (bif cmpB .ne (M 166 5) 1 then (K1 v2 M) else (bif inB 266 1964 then (bif cmpB .ge v3 (M 166 266) then (K1 v2 M) else (bif inB (267 + (4 * v3)) 1964 then (bif cmpB .ne (M 166 ((267 + (4 * v3))).toNat) v1 then (mo_sumOf_L4 v1 K1 n (v2 + 0) (v3 + 1) M) else (bI (mo_holdsLine v3 M) fun z_3 M_2 => (bif cmpB .eq z_3 0 then (mo_sumOf_L4 v1 K1 n (v2 + 0) (v3 + 1) M_2) else (bif inB ((267 + (4 * v3)) + 1) 1964 then (mo_sumOf_L4 v1 K1 n (v2 + (M_2 166 (((267 + (4 * v3)) + 1)).toNat)) (v3 + 1) M_2) else none)))) else none)) else none)) else none)
def mo_sumOf (v1 : Int) (M : MM) : OR :=
  (mo_sumOf_L4 v1 (fun v2_4 M_5 => some (rI v2_4, M_5)) FU 0 0 M)
def mo_otherEnd (v1 : Int) (v2 : Int) (M : MM) : OR :=
  (bI (mo_ofRoad v1 0 M) fun z_3 M_2 => (bif cmpB .ne z_3 v2 then (bI (mo_ofRoad v1 1 M_2) fun z_6 M_5 => (bif cmpB .ne z_6 v2 then some (rI (-1), M_5) else (bI (mo_ofRoad v1 0 M_5) fun z_9 M_8 => some (rI z_9, M_8)))) else (bI (mo_ofRoad v1 1 M_2) fun z_12 M_11 => some (rI z_12, M_11))))
def mo_isEating (v1 : Int) (v2 : Int) (M : MM) : OR :=
  (bI (mo_of v1 3 M) fun z_3 M_2 => (bif cmpB .lt z_3 0 then some (rI 0, M_2) else (bI (mo_of v1 3 M_2) fun z_6 M_5 => (bI (mo_of v1 4 M_5) fun z_9 M_8 => (bI (mo_in ((w32 v2).tmod (w32 24)) z_6 z_9 M_8) fun z_12 M_11 => (bif cmpB .eq z_12 0 then some (rI 0, M_11) else some (rI 1, M_11)))))))
def mo_waits (v1 : Int) (M : MM) : OR :=
  (bif inB 6 1964 then (bI (mo_hoursOf v1 M) fun z_3 M_2 => (bI (mo_placeOf v1 M_2) fun z_6 M_5 => (bI (mo_isEating z_6 (((M 166 6) + z_3) + 1) M_5) fun z_9 M_8 => (bif cmpB .eq z_9 0 then some (rJ (v1 + 1), M_8) else some (rJ (-1), M_8))))) else none)
def mo_frees_L6  (v1 v3 : Int) (K1 : Int → MM → OR) : Nat → Int → Int → MM → OR
  | 0, _, _, _ => none
  | n + 1, v4, v5, M => (bI (mo_things  M) fun z_3 M_2 => (bif cmpB .ge v5 z_3 then (K1 v4 M_2) else (bif cmpB .ne v4 0 then (mo_frees_L6 v1 v3 K1 n 1 (v5 + 1) M_2) else (bI (mo_stateOf v1 v5 M_2) fun z_6 M_5 => (bif cmpB .ne z_6 2 then (mo_frees_L6 v1 v3 K1 n 0 (v5 + 1) M_5) else (bI (mo_fitsBrother v5 v3 M_5) fun z_9 M_8 => (bif cmpB .eq z_9 0 then (mo_frees_L6 v1 v3 K1 n 0 (v5 + 1) M_8) else (mo_frees_L6 v1 v3 K1 n 1 (v5 + 1) M_8))))))))
def mo_frees (v1 : Int) (v3 : Int) (M : MM) : OR :=
  (mo_frees_L6 v1 v3 (fun v4_10 M_11 => (bif cmpB .eq v4_10 0 then some (rJ (-1), M_11) else (bI (mo_ofBrother v3 0 M_11) fun z_15 M_14 => (bI (mo_placeOf v1 M_14) fun z_18 M_17 => (bif cmpB .ne z_15 z_18 then some (rJ (-1), M_17) else (bI (mo_freedIn v1 M_17) fun z_21 M_20 => (bI (mo_has z_21 v3 M_20) fun z_24 M_23 => (bif cmpB .ne z_24 0 then some (rJ (-1), M_23) else (bJ (mo_with v1 (44 + v3) 1 1 M_23) fun z_27 M_26 => some (rJ z_27, M_26)))))))))) FU 0 0 M)
def mo_lyingAt_L4  (v1 : Int) (K1 : Int → MM → OR) : Nat → Int → Int → MM → OR
  | 0, _, _, _ => none
  | n + 1, v2, v3, M => (bI (mo_things  M) fun z_3 M_2 => (bif cmpB .ge v3 z_3 then (K1 v2 M_2) else (bI (mo_ofThing v3 2 M_2) fun z_6 M_5 => (bif cmpB .ne z_6 0 then (mo_lyingAt_L4 v1 K1 n (iOr v2 0) (v3 + 1) M_5) else (bI (mo_ofThing v3 3 M_5) fun z_9 M_8 => (bif cmpB .ne z_9 v1 then (mo_lyingAt_L4 v1 K1 n (iOr v2 0) (v3 + 1) M_8) else (mo_lyingAt_L4 v1 K1 n (iOr v2 (iShl 1 v3)) (v3 + 1) M_8)))))))
def mo_lyingAt (v1 : Int) (M : MM) : OR :=
  (mo_lyingAt_L4 v1 (fun v2_10 M_11 => some (rI v2_10, M_11)) FU 0 0 M)
def mo_place_J34   (v1 v2 s0 : Int) (M : MM) : OR :=
  (bI (mo_throwsIf s0 2 M) fun z_14 M_13 => (bif cmpB .eq z_14 0 then (bif cmpB .ne v2 8 then (bif cmpB .ne v2 6 then (bI (mo_of v1 v2 M_13) fun z_17 M_16 => some (rI z_17, M_16)) else (bI (mo_of v1 7 M_13) fun z_20 M_19 => (bif cmpB .ne z_20 1 then (bI (mo_of v1 v2 M_19) fun z_23 M_22 => some (rI z_23, M_22)) else some (rI (-1), M_19)))) else (bI (mo_lyingAt v1 M_13) fun z_26 M_25 => some (rI z_26, M_25))) else some (rI 0, M_13)))
def mo_place (v1 : Int) (v2 : Int) (M : MM) : OR :=
  (sM (mU M 165 0 0) fun M_1 => (bI (mo_noPlace v1 M_1) fun z_5 M_4 => (bI (mo_throwsIf z_5 1 M_4) fun z_8 M_7 => (bif cmpB .ne z_8 0 then some (rI 0, M_7) else (bI (mo_in v2 0 8 M_7) fun z_11 M_10 => (bif cmpB .ne z_11 0 then (mo_place_J34   v1 v2 0 M_10) else (mo_place_J34   v1 v2 1 M_10)))))))
def mo_thing_J33   (v1 v2 s0 : Int) (M : MM) : OR :=
  (bI (mo_throwsIf s0 2 M) fun z_14 M_13 => (bif cmpB .eq z_14 0 then (bif cmpB .ne v2 3 then (bI (mo_ofThing v1 v2 M_13) fun z_17 M_16 => some (rI z_17, M_16)) else (bI (mo_ofThing v1 2 M_13) fun z_20 M_19 => (bif cmpB .le z_20 1 then (bI (mo_ofThing v1 v2 M_19) fun z_23 M_22 => some (rI z_23, M_22)) else some (rI (-1), M_19)))) else some (rI 0, M_13)))
def mo_thing (v1 : Int) (v2 : Int) (M : MM) : OR :=
  (sM (mU M 165 0 0) fun M_1 => (bI (mo_noThing v1 M_1) fun z_5 M_4 => (bI (mo_throwsIf z_5 1 M_4) fun z_8 M_7 => (bif cmpB .ne z_8 0 then some (rI 0, M_7) else (bI (mo_in v2 0 3 M_7) fun z_11 M_10 => (bif cmpB .ne z_11 0 then (mo_thing_J33   v1 v2 0 M_10) else (mo_thing_J33   v1 v2 1 M_10)))))))
def mo_road (v1 : Int) (v2 : Int) (M : MM) : OR :=
  (sM (mU M 165 0 0) fun M_1 => (bI (mo_noRoad v1 M_1) fun z_5 M_4 => (bI (mo_throwsIf z_5 1 M_4) fun z_8 M_7 => (bif cmpB .ne z_8 0 then some (rI 0, M_7) else (bI (mo_in v2 0 3 M_7) fun z_11 M_10 => (bif cmpB .ne z_11 0 then (bI (mo_throwsIf 0 2 M_10) fun z_14 M_13 => (bif cmpB .eq z_14 0 then (bI (mo_ofRoad v1 v2 M_13) fun z_17 M_16 => some (rI z_17, M_16)) else some (rI 0, M_13))) else (bI (mo_throwsIf 1 2 M_10) fun z_20 M_19 => (bif cmpB .eq z_20 0 then (bI (mo_ofRoad v1 v2 M_19) fun z_23 M_22 => some (rI z_23, M_22)) else some (rI 0, M_19)))))))))
def mo_homeOf (v1 : Int) (M : MM) : OR :=
  (bI (mo_ofBrother v1 5 M) fun z_3 M_2 => (bif cmpB .ge z_3 0 then (bI (mo_ofBrother v1 5 M_2) fun z_6 M_5 => (bI (mo_ofBrother v1 3 M_5) fun z_9 M_8 => some (rI (z_6 + z_9), M_8))) else some (rI (-1), M_2)))
def mo_brother_J34   (v1 v2 s0 : Int) (M : MM) : OR :=
  (bI (mo_throwsIf s0 2 M) fun z_14 M_13 => (bif cmpB .eq z_14 0 then (bif cmpB .ne v2 6 then (bI (mo_ofBrother v1 v2 M_13) fun z_17 M_16 => some (rI z_17, M_16)) else (bI (mo_homeOf v1 M_13) fun z_20 M_19 => some (rI z_20, M_19))) else some (rI 0, M_13)))
def mo_brother (v1 : Int) (v2 : Int) (M : MM) : OR :=
  (sM (mU M 165 0 0) fun M_1 => (bI (mo_noBrother v1 M_1) fun z_5 M_4 => (bI (mo_throwsIf z_5 1 M_4) fun z_8 M_7 => (bif cmpB .ne z_8 0 then some (rI 0, M_7) else (bI (mo_in v2 0 6 M_7) fun z_11 M_10 => (bif cmpB .ne z_11 0 then (mo_brother_J34   v1 v2 0 M_10) else (mo_brother_J34   v1 v2 1 M_10)))))))
def mo_girl_J40   (v1 s0 : Int) (M : MM) : OR :=
  (bI (mo_throwsIf s0 2 M) fun z_14 M_13 => (bif cmpB .eq z_14 0 then (bif cmpB .eq v1 0 then (bif inB 7 1964 then some (rI (M_13 166 7), M_13) else none) else (bif cmpB .eq v1 1 then (bif inB 6 1964 then some (rI (M_13 166 6), M_13) else none) else (bif cmpB .eq v1 2 then (bif inB 8 1964 then some (rI (M_13 166 8), M_13) else none) else (bif cmpB .eq v1 3 then (bJ (mo_now  M_13) fun z_21 M_20 => (bI (mo_thingsIn z_21 2 M_20) fun z_24 M_23 => some (rI z_24, M_23))) else (bJ (mo_now  M_13) fun z_27 M_26 => (bI (mo_thingsIn z_27 2 M_26) fun z_30 M_29 => (bI (mo_worthOf z_30 M_29) fun z_33 M_32 => some (rI z_33, M_32)))))))) else some (rI 0, M_13)))
def mo_girl_J20   (v1 s0 : Int) (M : MM) : OR :=
  (bI (mo_throwsIf s0 1 M) fun z_8 M_7 => (bif cmpB .ne z_8 0 then some (rI 0, M_7) else (bI (mo_places  M_7) fun z_11 M_10 => (bif cmpB .ne z_11 0 then (mo_girl_J40   v1 0 M_10) else (mo_girl_J40   v1 1 M_10)))))
def mo_girl (v1 : Int) (M : MM) : OR :=
  (sM (mU M 165 0 0) fun M_1 => (bI (mo_in v1 0 4 M_1) fun z_5 M_4 => (bif cmpB .ne z_5 0 then (mo_girl_J20   v1 0 M_4) else (mo_girl_J20   v1 1 M_4))))
def mo_fits_J27   (v1 v2 s0 : Int) (M : MM) : OR :=
  (bI (mo_throwsIf s0 1 M) fun z_8 M_7 => (bif cmpB .ne z_8 0 then some (rI 0, M_7) else (bI (mo_isKeeper v2 M_7) fun z_11 M_10 => (bif cmpB .ne z_11 0 then (bI (mo_throwsIf 0 2 M_10) fun z_14 M_13 => (bif cmpB .eq z_14 0 then (bI (mo_fitsKeeper v1 v2 M_13) fun z_17 M_16 => (bif zo z_17 then some (rI z_17, M_16) else none)) else some (rI 0, M_13))) else (bI (mo_throwsIf 1 2 M_10) fun z_20 M_19 => (bif cmpB .eq z_20 0 then (bI (mo_fitsKeeper v1 v2 M_19) fun z_23 M_22 => (bif zo z_23 then some (rI z_23, M_22) else none)) else some (rI 0, M_19)))))))
def mo_fits_J22   (v1 v2 : Int) (M : MM) : OR :=
  (mo_fits_J27   v1 v2 1 M)
def mo_fits (v1 : Int) (v2 : Int) (M : MM) : OR :=
  (sM (mU M 165 0 0) fun M_1 => (bI (mo_noThing v1 M_1) fun z_5 M_4 => (bif cmpB .ne z_5 0 then (mo_fits_J22   v1 v2 M_4) else (bI (mo_noPlace v2 M_4) fun z_26 M_25 => (bif cmpB .eq z_26 0 then (mo_fits_J27   v1 v2 0 M_25) else (mo_fits_J22   v1 v2 M_25))))))
def mo_delay_L69  (v1 : Int) (K1 : Int → MM → OR) : Nat → Int → MM → OR
  | 0, _, _ => none
  | n + 1, v2, M => (bif cmpB .ge v2 v1 then (K1 v2 M) else (bJ (mo_now  M) fun z_20 M_19 => (bJ (mo_waits z_20 M_19) fun z_23 M_22 => (bif cmpB .lt (lCmp z_23 0) 0 then (K1 v2 M_22) else (bif inB 6 1964 then (bif inB 6 1964 then (sM (mU M_22 166 6 ((M_22 166 6) + 1)) fun M_24 => (mo_delay_L69 v1 K1 n (v2 + 1) M_24)) else none) else none)))))
def mo_delay_J54   (v1 s0 : Int) (M : MM) : OR :=
  (bI (mo_throwsIf s0 2 M) fun z_14 M_13 => (bif cmpB .eq z_14 0 then (bV (mo_remembers  M_13) fun M_16 => (mo_delay_L69 v1 (fun v2_26 M_27 => some (rI v2_26, M_27)) FU 0 M_16)) else some (rI 0, M_13)))
def mo_delay_J49   (v1 : Int) (M : MM) : OR :=
  (mo_delay_J54   v1 1 M)
def mo_delay_J21   (v1 s0 : Int) (M : MM) : OR :=
  (bI (mo_throwsIf s0 1 M) fun z_8 M_7 => (bif cmpB .ne z_8 0 then some (rI 0, M_7) else (bI (mo_places  M_7) fun z_11 M_10 => (bif cmpB .eq z_11 0 then (mo_delay_J49   v1 M_10) else (bJ (mo_now  M_10) fun z_32 M_31 => (bJ (mo_waits z_32 M_31) fun z_35 M_34 => (bif cmpB .ge (lCmp z_35 0) 0 then (mo_delay_J54   v1 0 M_34) else (mo_delay_J49   v1 M_34))))))))
def mo_delay (v1 : Int) (M : MM) : OR :=
  (sM (mU M 165 0 0) fun M_1 => (bI (mo_in v1 1 48 M_1) fun z_5 M_4 => (bif cmpB .ne z_5 0 then (mo_delay_J21   v1 0 M_4) else (mo_delay_J21   v1 1 M_4))))
def mo_isMet_L27  (v1 : Int) (K1 : Int → MM → OR) (K2 : MM → OR) : Nat → Int → MM → OR
  | 0, _, _ => none
  | n + 1, v3, M => (bif inB v3 16384 then (bif cmpB .eq (M 174 (v3).toNat) 0 then (K1 v3 M) else (bif inB v3 16384 then (bif inB ((M 174 (v3).toNat) - 1) 6000 then (bif cmpB .ne (lCmp (M 173 (((M 174 (v3).toNat) - 1)).toNat) v1) 0 then (mo_isMet_L27 v1 K1 K2 n (iAnd (v3 + 1) 16383) M) else (K2  M)) else none) else none)) else none)
def mo_isMet (v1 : Int) (M : MM) : OR :=
  (bif cmpB .ge (lCmp v1 0) 0 then (mo_isMet_L27 v1 (fun v3_1 M_2 => (bif cmpB .ne (M_2 165 25) 6000 then (bif inB (M_2 165 25) 6000 then (sM (mU M_2 173 ((M_2 165 25)).toNat v1) fun M_3 => (sM (mU M_3 165 25 ((M_3 165 25) + 1)) fun M_5 => (bif inB v3_1 16384 then (sM (mU M_5 174 (v3_1).toNat (M_5 165 25)) fun M_7 => some (rI 1, M_7)) else none))) else none) else some (rI 0, M_2))) (fun M_9 => some (rI 1, M_9)) FU (iAnd (lUshr ((lXor v1 (lShr v1 27)) * 2654435761) 18) 16383) M) else some (rI 1, M))
def mo_allBrothers (v1 : Int) (M : MM) : OR :=
  (bI (mo_brothers  M) fun z_3 M_2 => some (rI (iAnd v1 ((iShl 1 z_3) - 1)), M_2))
def mo_standsIn_L5  (v1 v2 : Int) (K1 : Int → MM → OR) : Nat → Int → Int → MM → OR
  | 0, _, _, _ => none
  | n + 1, v3, v4, M => (bI (mo_places  M) fun z_3 M_2 => (bif cmpB .ge v4 z_3 then (K1 v3 M_2) else (bif cmpB .eq v3 0 then (mo_standsIn_L5 v1 v2 K1 n 0 (v4 + 1) M_2) else (bI (mo_isKeeper v4 M_2) fun z_6 M_5 => (bif cmpB .eq z_6 0 then (mo_standsIn_L5 v1 v2 K1 n 1 (v4 + 1) M_5) else (bI (mo_of v4 7 M_5) fun z_9 M_8 => (bif cmpB .eq z_9 1 then (mo_standsIn_L5 v1 v2 K1 n 1 (v4 + 1) M_8) else (bI (mo_fitsKeeper v2 v4 M_8) fun z_12 M_11 => (bif cmpB .eq z_12 0 then (mo_standsIn_L5 v1 v2 K1 n 1 (v4 + 1) M_11) else (bI (mo_fitsKeeper v1 v4 M_11) fun z_15 M_14 => (bif cmpB .eq z_15 0 then (mo_standsIn_L5 v1 v2 K1 n 0 (v4 + 1) M_14) else (mo_standsIn_L5 v1 v2 K1 n 1 (v4 + 1) M_14))))))))))))
def mo_standsIn_L74  (v1 v2 : Int) (K1 : Int → MM → OR) : Nat → Int → Int → MM → OR
  | 0, _, _, _ => none
  | n + 1, v3, v4, M => (bI (mo_brothers  M) fun z_21 M_20 => (bif cmpB .ge v4 z_21 then (K1 v3 M_20) else (bif cmpB .eq v3 0 then (mo_standsIn_L74 v1 v2 K1 n 0 (v4 + 1) M_20) else (bI (mo_ofBrother v4 5 M_20) fun z_24 M_23 => (bif cmpB .ge z_24 0 then (mo_standsIn_L74 v1 v2 K1 n 1 (v4 + 1) M_23) else (bI (mo_fitsBrother v2 v4 M_23) fun z_27 M_26 => (bif cmpB .eq z_27 0 then (mo_standsIn_L74 v1 v2 K1 n 1 (v4 + 1) M_26) else (bI (mo_fitsBrother v1 v4 M_26) fun z_30 M_29 => (bif cmpB .eq z_30 0 then (mo_standsIn_L74 v1 v2 K1 n 0 (v4 + 1) M_29) else (mo_standsIn_L74 v1 v2 K1 n 1 (v4 + 1) M_29))))))))))
def mo_standsIn (v1 : Int) (v2 : Int) (M : MM) : OR :=
  (mo_standsIn_L5 v1 v2 (fun v3_16 M_17 => (mo_standsIn_L74 v1 v2 (fun v3_31 M_32 => (bif zo v3_31 then some (rI v3_31, M_32) else none)) FU v3_16 0 M_17)) FU 1 0 M)
def mo_stands_L28  (v1 v2 : Int) (K1 : Int → Int → MM → OR) : Nat → Int → Int → Int → MM → OR
  | 0, _, _, _, _ => none
  | n + 1, v3, v4, v5, M => (bI (mo_things  M) fun z_11 M_10 => (bif cmpB .ge v5 z_11 then (K1 v3 v4 M_10) else (bif cmpB .eq v5 v1 then (mo_stands_L28 v1 v2 K1 n v3 v4 (v5 + 1) M_10) else (bI (mo_ofThing v5 2 M_10) fun z_14 M_13 => (bif cmpB .eq z_14 3 then (mo_stands_L28 v1 v2 K1 n v3 v4 (v5 + 1) M_13) else (bI (mo_standsIn v5 v1 M_13) fun z_17 M_16 => (bif cmpB .ne z_17 0 then (bif cmpB .lt v4 0 then (mo_stands_L28 v1 v2 K1 n (iOr v3 (iShl 1 v5)) v5 (v5 + 1) M_16) else (bI (mo_ofThing v5 1 M_16) fun z_20 M_19 => (bI (mo_ofThing v4 1 M_19) fun z_23 M_22 => (bif cmpB .ge z_20 z_23 then (mo_stands_L28 v1 v2 K1 n (iOr v3 (iShl 1 v5)) v4 (v5 + 1) M_22) else (mo_stands_L28 v1 v2 K1 n (iOr v3 (iShl 1 v5)) v5 (v5 + 1) M_22))))) else (mo_stands_L28 v1 v2 K1 n v3 v4 (v5 + 1) M_16))))))))
def mo_stands (v1 : Int) (v2 : Int) (M : MM) : OR :=
  (sM (mU M 165 0 0) fun M_1 => (bI (mo_noThing v1 M_1) fun z_5 M_4 => (bI (mo_throwsIf z_5 1 M_4) fun z_8 M_7 => (bif cmpB .eq z_8 0 then (mo_stands_L28 v1 v2 (fun v3_24 v4_25 M_26 => (bif cmpB .eq v2 0 then some (rI v3_24, M_26) else some (rI v4_25, M_26))) FU 0 (-1) 0 M_7) else some (rI 0, M_7)))))
def mo_needed_L44  (v1 v2 : Int) (K1 : Int → MM → OR) : Nat → Int → Int → MM → OR
  | 0, _, _, _ => none
  | n + 1, v3, v4, M => (bI (mo_things  M) fun z_11 M_10 => (bif cmpB .ge v4 z_11 then (K1 v3 M_10) else (bif cmpB .eq v3 0 then (mo_needed_L44 v1 v2 K1 n 0 (v4 + 1) M_10) else (bI (mo_ofThing v4 2 M_10) fun z_14 M_13 => (bif cmpB .eq z_14 3 then (mo_needed_L44 v1 v2 K1 n 1 (v4 + 1) M_13) else (bI (mo_fitsKeeper v4 v2 M_13) fun z_17 M_16 => (bif cmpB .ne z_17 0 then (mo_needed_L44 v1 v2 K1 n 0 (v4 + 1) M_16) else (mo_needed_L44 v1 v2 K1 n 1 (v4 + 1) M_16))))))))
def mo_needed_J40  (Kb : Int → Int → MM → OR) (K1 : Int → MM → OR) (v1 v2 s0 : Int) (M : MM) : OR :=
  (mo_needed_L44 v1 v2 (fun v3_18 M_19 => (bif cmpB .eq v3_18 0 then (Kb (iOr v1 0) (v2 + 1) M_19) else (Kb (iOr v1 (iShl 1 v2)) (v2 + 1) M_19))) FU s0 0 M)
def mo_needed_J39  (Kb : Int → Int → MM → OR) (K1 : Int → MM → OR) (v1 v2 : Int) (M : MM) : OR :=
  (mo_needed_J40  Kb K1 v1 v2 0 M)
def mo_needed_L9  (K1 : Int → MM → OR) : Nat → Int → Int → MM → OR
  | 0, _, _, _ => none
  | n + 1, v1, v2, M => (bI (mo_places  M) fun z_5 M_4 => (bif cmpB .ge v2 z_5 then (K1 v1 M_4) else (bI (mo_isKeeper v2 M_4) fun z_8 M_7 => (bif cmpB .eq z_8 0 then (mo_needed_J39  (mo_needed_L9  K1 n) K1 v1 v2 M_7) else (bI (mo_of v2 7 M_7) fun z_23 M_22 => (bif cmpB .ne z_23 0 then (mo_needed_J39  (mo_needed_L9  K1 n) K1 v1 v2 M_22) else (mo_needed_J40  (mo_needed_L9  K1 n) K1 v1 v2 1 M_22)))))))
def mo_needed_L138  (v1 v2 : Int) (K1 : Int → MM → OR) : Nat → Int → Int → MM → OR
  | 0, _, _, _ => none
  | n + 1, v3, v4, M => (bI (mo_things  M) fun z_37 M_36 => (bif cmpB .ge v4 z_37 then (K1 v3 M_36) else (bif cmpB .eq v3 0 then (mo_needed_L138 v1 v2 K1 n 0 (v4 + 1) M_36) else (bI (mo_ofThing v4 2 M_36) fun z_40 M_39 => (bif cmpB .eq z_40 3 then (mo_needed_L138 v1 v2 K1 n 1 (v4 + 1) M_39) else (bI (mo_fitsBrother v4 v2 M_39) fun z_43 M_42 => (bif cmpB .ne z_43 0 then (mo_needed_L138 v1 v2 K1 n 0 (v4 + 1) M_42) else (mo_needed_L138 v1 v2 K1 n 1 (v4 + 1) M_42))))))))
def mo_needed_J134  (Kb : Int → Int → MM → OR) (K1 : Int → MM → OR) (v1 v2 s0 : Int) (M : MM) : OR :=
  (mo_needed_L138 v1 v2 (fun v3_44 M_45 => (bif cmpB .eq v3_44 0 then (Kb (iOr v1 0) (v2 + 1) M_45) else (Kb (iOr v1 (iShl 1 (10 + v2))) (v2 + 1) M_45))) FU s0 0 M)
def mo_needed_L112  (K1 : Int → MM → OR) : Nat → Int → Int → MM → OR
  | 0, _, _, _ => none
  | n + 1, v1, v2, M => (bI (mo_brothers  M) fun z_31 M_30 => (bif cmpB .ge v2 z_31 then (K1 v1 M_30) else (bI (mo_ofBrother v2 5 M_30) fun z_34 M_33 => (bif cmpB .ge z_34 0 then (mo_needed_J134  (mo_needed_L112  K1 n) K1 v1 v2 0 M_33) else (mo_needed_J134  (mo_needed_L112  K1 n) K1 v1 v2 1 M_33)))))
def mo_needed  (M : MM) : OR :=
  (sM (mU M 165 0 0) fun M_1 => (mo_needed_L9  (fun v1_24 M_25 => (mo_needed_L112  (fun v1_47 M_48 => some (rI v1_47, M_48)) FU v1_24 0 M_25)) FU 0 0 M_1))
def mo_laysFar_L2  (v1 : Int) (K1 : MM → OR) : Nat → Int → MM → OR
  | 0, _, _ => none
  | n + 1, v2, M => (bif cmpB .ge v2 10 then (K1  M) else (bif cmpB .ne v2 v1 then (bif inB v2 10 then (sM (mU M 175 (v2).toNat 100000) fun M_1 => (mo_laysFar_L2 v1 K1 n (v2 + 1) M_1)) else none) else (bif inB v2 10 then (sM (mU M 175 (v2).toNat 0) fun M_3 => (mo_laysFar_L2 v1 K1 n (v2 + 1) M_3)) else none)))
def mo_laysFar_L44  (v2 : Int) (K1 : MM → OR) : Nat → Int → MM → OR
  | 0, _, _ => none
  | n + 1, v3, M => (bI (mo_roads  M) fun z_17 M_16 => (bif cmpB .ge v3 z_17 then (K1  M_16) else (bI (mo_ofRoad v3 0 M_16) fun z_20 M_19 => (bI (mo_ofRoad v3 1 M_19) fun z_23 M_22 => (bif inB z_20 10 then (bif inB z_23 10 then (bI (mo_ofRoad v3 2 M_22) fun z_26 M_25 => (bif inB z_20 10 then (sM (mU M_25 175 (z_20).toNat (imin (M_22 175 (z_20).toNat) ((M_22 175 (z_23).toNat) + z_26))) fun M_27 => (bif inB z_23 10 then (bif inB z_20 10 then (bI (mo_ofRoad v3 2 M_27) fun z_31 M_30 => (bif inB z_23 10 then (sM (mU M_30 175 (z_23).toNat (imin (M_27 175 (z_23).toNat) ((M_27 175 (z_20).toNat) + z_31))) fun M_32 => (mo_laysFar_L44 v2 K1 n (v3 + 1) M_32)) else none)) else none) else none)) else none)) else none) else none)))))
def mo_laysFar_L34  (K1 : MM → OR) : Nat → Int → MM → OR
  | 0, _, _ => none
  | n + 1, v2, M => (bI (mo_places  M) fun z_14 M_13 => (bif cmpB .ge v2 z_14 then (K1  M_13) else (mo_laysFar_L44 v2 (fun M_34 => (mo_laysFar_L34  K1 n (v2 + 1) M_34)) FU 0 M_13)))
def mo_laysFar_L144  (K1 : MM → OR) : Nat → Int → MM → OR
  | 0, _, _ => none
  | n + 1, v2, M => (bif cmpB .ge v2 10 then (K1  M) else (bif inB v2 10 then (bif inB v2 10 then (sM (mU M 175 (v2).toNat (imin (M 175 (v2).toNat) 100000)) fun M_47 => (mo_laysFar_L144  K1 n (v2 + 1) M_47)) else none) else none))
def mo_laysFar (v1 : Int) (M : MM) : OR :=
  (mo_laysFar_L2 v1 (fun M_5 => (mo_laysFar_L34  (fun M_40 => (mo_laysFar_L144  (fun M_50 => some (rV, M_50)) FU 0 M_40)) FU 0 M_5)) FU 0 M)
def mo_far_J27   (v1 v2 s0 : Int) (M : MM) : OR :=
  (bI (mo_throwsIf s0 1 M) fun z_8 M_7 => (bif cmpB .eq z_8 0 then (bV (mo_laysFar v1 M_7) fun M_10 => (bif inB v2 10 then (bif cmpB .ne (M_10 175 (v2).toNat) 100000 then (bif inB v2 10 then some (rI (M_10 175 (v2).toNat), M_10) else none) else some (rI (-1), M_10)) else none)) else some (rI 0, M_7)))
def mo_far_J22   (v1 v2 : Int) (M : MM) : OR :=
  (mo_far_J27   v1 v2 1 M)
def mo_far (v1 : Int) (v2 : Int) (M : MM) : OR :=
  (sM (mU M 165 0 0) fun M_1 => (bI (mo_noPlace v1 M_1) fun z_5 M_4 => (bif cmpB .ne z_5 0 then (mo_far_J22   v1 v2 M_4) else (bI (mo_noPlace v2 M_4) fun z_14 M_13 => (bif cmpB .eq z_14 0 then (mo_far_J27   v1 v2 0 M_13) else (mo_far_J22   v1 v2 M_13))))))
def mo_turnBack_J42   (v1 s0 : Int) (M : MM) : OR :=
  (bI (mo_throwsIf s0 2 M) fun z_14 M_13 => (bif cmpB .eq z_14 0 then (bif inB 7 1964 then (bV (mo_laysFar (M_13 166 7) M_13) fun M_16 => (bif inB 0 10 then (bif cmpB .eq (M_16 175 0) 100000 then some (rI (-1), M_16) else (bif inB 0 10 then (bif inB 6 1964 then (bif cmpB .ge (v1 - (M_16 175 0)) (M_16 166 6) then (bif inB 0 10 then some (rI (v1 - (M_16 175 0)), M_16) else none) else some (rI (-1), M_16)) else none) else none)) else none)) else none) else some (rI 0, M_13)))
def mo_turnBack_J22   (v1 s0 : Int) (M : MM) : OR :=
  (bI (mo_throwsIf s0 1 M) fun z_8 M_7 => (bif cmpB .ne z_8 0 then some (rI 0, M_7) else (bI (mo_places  M_7) fun z_11 M_10 => (bif cmpB .ne z_11 0 then (mo_turnBack_J42   v1 0 M_10) else (mo_turnBack_J42   v1 1 M_10)))))
def mo_turnBack (v1 : Int) (M : MM) : OR :=
  (sM (mU M 165 0 0) fun M_1 => (bI (mo_in v1 0 100000 M_1) fun z_5 M_4 => (bif cmpB .ne z_5 0 then (mo_turnBack_J22   v1 0 M_4) else (mo_turnBack_J22   v1 1 M_4))))
def mo_meet_L44  (v2 v3 : Int) (K1 : MM → OR) : Nat → Int → MM → OR
  | 0, _, _ => none
  | n + 1, v4, M => (bif cmpB .ge v4 10 then (K1  M) else (bif inB v4 10 then (bif inB v4 10 then (sM (mU M 176 (v4).toNat (M 175 (v4).toNat)) fun M_12 => (mo_meet_L44 v2 v3 K1 n (v4 + 1) M_12)) else none) else none))
def mo_meet_L87  (v3 : Int) (K1 : Int → Int → MM → OR) : Nat → Int → Int → Int → MM → OR
  | 0, _, _, _, _ => none
  | n + 1, v4, v5, v6, M => (bI (mo_places  M) fun z_25 M_24 => (bif cmpB .ge v6 z_25 then (K1 v4 v5 M_24) else (bif inB v6 10 then (bif inB v6 10 then (bif cmpB .lt (imax (M_24 175 (v6).toNat) (M_24 176 (v6).toNat)) v5 then (mo_meet_L87 v3 K1 n v6 (imax (M_24 175 (v6).toNat) (M_24 176 (v6).toNat)) (v6 + 1) M_24) else (mo_meet_L87 v3 K1 n v4 v5 (v6 + 1) M_24)) else none) else none)))
def mo_meet_J27   (v1 v2 v3 s0 : Int) (M : MM) : OR :=
  (bI (mo_throwsIf s0 1 M) fun z_8 M_7 => (bif cmpB .eq z_8 0 then (bV (mo_laysFar v1 M_7) fun M_10 => (mo_meet_L44 v2 v3 (fun M_14 => (bV (mo_laysFar v2 M_14) fun M_21 => (mo_meet_L87 v3 (fun v4_26 v5_27 M_28 => (bif cmpB .ne v3 0 then some (rI v4_26, M_28) else (bif cmpB .ge v4_26 0 then some (rI v5_27, M_28) else some (rI v4_26, M_28)))) FU (-1) 100000 0 M_21))) FU 0 M_10)) else some (rI 0, M_7)))
def mo_meet_J22   (v1 v2 v3 : Int) (M : MM) : OR :=
  (mo_meet_J27   v1 v2 v3 1 M)
def mo_meet (v1 : Int) (v2 : Int) (v3 : Int) (M : MM) : OR :=
  (sM (mU M 165 0 0) fun M_1 => (bI (mo_noPlace v1 M_1) fun z_5 M_4 => (bif cmpB .ne z_5 0 then (mo_meet_J22   v1 v2 v3 M_4) else (bI (mo_noPlace v2 M_4) fun z_36 M_35 => (bif cmpB .eq z_36 0 then (mo_meet_J27   v1 v2 v3 0 M_35) else (mo_meet_J22   v1 v2 v3 M_35))))))
def mo_surest_L38  (v1 v2 : Int) (K1 : MM → OR) : Nat → Int → MM → OR
  | 0, _, _ => none
  | n + 1, v3, M => (bif cmpB .ge v3 10 then (K1  M) else (bif cmpB .ne v3 v1 then (bif inB v3 10 then (sM (mU M 175 (v3).toNat 0) fun M_9 => (mo_surest_L38 v1 v2 K1 n (v3 + 1) M_9)) else none) else (bif inB v3 10 then (sM (mU M 175 (v3).toNat 1000000) fun M_11 => (mo_surest_L38 v1 v2 K1 n (v3 + 1) M_11)) else none)))
def mo_surest_L81  (v2 v3 : Int) (K1 : MM → OR) : Nat → Int → MM → OR
  | 0, _, _ => none
  | n + 1, v4, M => (bI (mo_roads  M) fun z_24 M_23 => (bif cmpB .ge v4 z_24 then (K1  M_23) else (bI (mo_ofRoad v4 0 M_23) fun z_27 M_26 => (bI (mo_ofRoad v4 1 M_26) fun z_30 M_29 => (bif inB z_27 10 then (bif inB z_30 10 then (bI (mo_ofRoad v4 3 M_29) fun z_33 M_32 => (bif inB z_27 10 then (sM (mU M_32 175 (z_27).toNat (imax (M_29 175 (z_27).toNat) ((w64 ((w32 (M_29 175 (z_30).toNat)) * (w32 z_33))).tdiv (w64 100)))) fun M_34 => (bif inB z_30 10 then (bif inB z_27 10 then (bI (mo_ofRoad v4 3 M_34) fun z_38 M_37 => (bif inB z_30 10 then (sM (mU M_37 175 (z_30).toNat (imax (M_34 175 (z_30).toNat) ((w64 ((w32 (M_34 175 (z_27).toNat)) * (w32 z_38))).tdiv (w64 100)))) fun M_39 => (mo_surest_L81 v2 v3 K1 n (v4 + 1) M_39)) else none)) else none) else none)) else none)) else none) else none)))))
def mo_surest_L70  (v2 : Int) (K1 : MM → OR) : Nat → Int → MM → OR
  | 0, _, _ => none
  | n + 1, v3, M => (bI (mo_places  M) fun z_21 M_20 => (bif cmpB .ge v3 z_21 then (K1  M_20) else (mo_surest_L81 v2 v3 (fun M_41 => (mo_surest_L70 v2 K1 n (v3 + 1) M_41)) FU 0 M_20)))
def mo_surest_J27   (v1 v2 s0 : Int) (M : MM) : OR :=
  (bI (mo_throwsIf s0 1 M) fun z_8 M_7 => (bif cmpB .eq z_8 0 then (mo_surest_L38 v1 v2 (fun M_13 => (mo_surest_L70 v2 (fun M_46 => (bif inB v2 10 then some (rI (M_46 175 (v2).toNat), M_46) else none)) FU 0 M_13)) FU 0 M_7) else some (rI 0, M_7)))
def mo_surest_J22   (v1 v2 : Int) (M : MM) : OR :=
  (mo_surest_J27   v1 v2 1 M)
def mo_surest (v1 : Int) (v2 : Int) (M : MM) : OR :=
  (sM (mU M 165 0 0) fun M_1 => (bI (mo_noPlace v1 M_1) fun z_5 M_4 => (bif cmpB .ne z_5 0 then (mo_surest_J22   v1 v2 M_4) else (bI (mo_noPlace v2 M_4) fun z_54 M_53 => (bif cmpB .eq z_54 0 then (mo_surest_J27   v1 v2 0 M_53) else (mo_surest_J22   v1 v2 M_53))))))
def mo_sign_L32  (v1 : Int) (K1 : MM → OR) : Nat → Int → MM → OR
  | 0, _, _ => none
  | n + 1, v2, M => (bif cmpB .ge v2 10 then (K1  M) else (bif inB v2 10 then (bif inB v2 10 then (sM (mU M 176 (v2).toNat (M 175 (v2).toNat)) fun M_15 => (mo_sign_L32 v1 K1 n (v2 + 1) M_15)) else none) else none))
def mo_sign_L58  (v1 : Int) (K1 : MM → OR) : Nat → Int → MM → OR
  | 0, _, _ => none
  | n + 1, v2, M => (bI (mo_places  M) fun z_22 M_21 => (bif cmpB .ge v2 z_22 then (K1  M_21) else (bif inB v2 10 then (sM (mU M_21 177 (v2).toNat (nZ 1)) fun M_23 => (mo_sign_L58 v1 K1 n (v2 + 1) M_23)) else none)))
def mo_sign_L109  (v1 v2 : Int) (K1 : MM → OR) : Nat → Int → MM → OR
  | 0, _, _ => none
  | n + 1, v3, M => (bI (mo_places  M) fun z_39 M_38 => (bif cmpB .ge v3 z_39 then (K1  M_38) else (bif inB v3 10 then (bif cmpB .eq (M_38 177 (v3).toNat) 0 then (bif inB v3 10 then (sM (mU M_38 177 (v3).toNat (nZ 0)) fun M_40 => (mo_sign_L109 v1 v2 K1 n (v3 + 1) M_40)) else none) else (bif inB v3 10 then (bif inB v3 10 then (bif cmpB .ge (M_38 176 (v3).toNat) (M_38 175 (v3).toNat) then (bif inB v3 10 then (sM (mU M_38 177 (v3).toNat (nZ 0)) fun M_42 => (mo_sign_L109 v1 v2 K1 n (v3 + 1) M_42)) else none) else (bif inB v3 10 then (sM (mU M_38 177 (v3).toNat (nZ 1)) fun M_44 => (mo_sign_L109 v1 v2 K1 n (v3 + 1) M_44)) else none)) else none) else none)) else none)))
def mo_sign_L81  (v1 : Int) (K1 : MM → OR) : Nat → Int → MM → OR
  | 0, _, _ => none
  | n + 1, v2, M => (bI (mo_brothers  M) fun z_30 M_29 => (bif cmpB .ge v2 z_30 then (K1  M_29) else (bif cmpB .ne v2 v1 then (bI (mo_ofBrother v2 0 M_29) fun z_33 M_32 => (bV (mo_laysFar z_33 M_32) fun M_35 => (mo_sign_L109 v1 v2 (fun M_46 => (mo_sign_L81 v1 K1 n (v2 + 1) M_46)) FU 0 M_35))) else (mo_sign_L81 v1 K1 n (v2 + 1) M_29))))
def mo_sign_L168  (K1 : Int → MM → OR) : Nat → Int → Int → MM → OR
  | 0, _, _, _ => none
  | n + 1, v2, v3, M => (bI (mo_places  M) fun z_55 M_54 => (bif cmpB .ge v3 z_55 then (K1 v2 M_54) else (bif inB v3 10 then (bif cmpB .eq (M_54 177 (v3).toNat) 0 then (mo_sign_L168  K1 n v2 (v3 + 1) M_54) else (bif cmpB .lt v2 0 then (mo_sign_L168  K1 n v3 (v3 + 1) M_54) else (bif inB v3 10 then (bif inB v2 10 then (bif cmpB .ge (M_54 176 (v3).toNat) (M_54 176 (v2).toNat) then (mo_sign_L168  K1 n v2 (v3 + 1) M_54) else (mo_sign_L168  K1 n v3 (v3 + 1) M_54)) else none) else none))) else none)))
def mo_sign (v1 : Int) (M : MM) : OR :=
  (sM (mU M 165 0 0) fun M_1 => (bI (mo_noBrother v1 M_1) fun z_5 M_4 => (bI (mo_throwsIf z_5 1 M_4) fun z_8 M_7 => (bif cmpB .eq z_8 0 then (bI (mo_ofBrother v1 0 M_7) fun z_11 M_10 => (bV (mo_laysFar z_11 M_10) fun M_13 => (mo_sign_L32 v1 (fun M_17 => (mo_sign_L58 v1 (fun M_25 => (mo_sign_L81 v1 (fun M_48 => (mo_sign_L168  (fun v2_58 M_59 => some (rI v2_58, M_59)) FU (-1) 0 M_48)) FU 0 M_25)) FU 0 M_17)) FU 0 M_13))) else some (rI 0, M_7)))))
def mo_lateness_L7  (v1 : Int) (K1 : Int → MM → OR) : Nat → Int → Int → Int → MM → OR
  | 0, _, _, _, _ => none
  | n + 1, v2, v3, v4, M => (bif cmpB .ge v4 v1 then (K1 v3 M) else (bif inB v4 7 then (bI (mo_homeOf (M 178 (v4).toNat) M) fun z_3 M_2 => (bif inB v4 7 then (bI (mo_ofBrother (M_2 178 (v4).toNat) 4 M_2) fun z_6 M_5 => (mo_lateness_L7 v1 K1 n (imax (v2 + 1) z_3) (imax v3 ((imax (v2 + 1) z_3) - z_6)) (v4 + 1) M_5)) else none)) else none))
def mo_lateness (v1 : Int) (M : MM) : OR :=
  (mo_lateness_L7 v1 (fun v3_7 M_8 => some (rI v3_7, M_8)) FU (-1) 0 0 M)
def mo_swaps (v1 : Int) (v2 : Int) (M : MM) : OR :=
  (bif inB v1 7 then (bif inB v2 7 then (bif inB v1 7 then (sM (mU M 178 (v1).toNat (M 178 (v2).toNat)) fun M_1 => (bif inB v2 7 then (sM (mU M_1 178 (v2).toNat (M 178 (v1).toNat)) fun M_3 => some (rV, M_3)) else none)) else none) else none) else none)
def mo_nextOrder_L4  (v1 : Int) (K1 : Int → MM → OR) : Nat → Int → MM → OR
  | 0, _, _ => none
  | n + 1, v2, M => (bif cmpB .lt v2 0 then (K1 v2 M) else (bif inB v2 7 then (bif inB (v2 + 1) 7 then (bif cmpB .le (M 178 (v2).toNat) (M 178 ((v2 + 1)).toNat) then (K1 v2 M) else (mo_nextOrder_L4 v1 K1 n (v2 + (-1)) M)) else none) else none))
def mo_nextOrder_L41  (v1 v2 : Int) (K1 : Int → MM → OR) : Nat → Int → MM → OR
  | 0, _, _ => none
  | n + 1, v3, M => (bif inB v3 7 then (bif inB v2 7 then (bif cmpB .ge (M 178 (v3).toNat) (M 178 (v2).toNat) then (K1 v3 M) else (mo_nextOrder_L41 v1 v2 K1 n (v3 + (-1)) M)) else none) else none)
def mo_nextOrder_L78  (K1 : MM → OR) : Nat → Int → Int → MM → OR
  | 0, _, _, _ => none
  | n + 1, v4, v5, M => (bif cmpB .ge v4 v5 then (K1  M) else (bV (mo_swaps v4 v5 M) fun M_14 => (mo_nextOrder_L78  K1 n (v4 + 1) (v5 + (-1)) M_14)))
def mo_nextOrder_J31   (v1 v2 : Int) (M : MM) : OR :=
  (bif cmpB .ge v2 0 then (mo_nextOrder_L41 v1 v2 (fun v3_6 M_7 => (bV (mo_swaps v2 v3_6 M_7) fun M_11 => (mo_nextOrder_L78  (fun M_17 => some (rI 1, M_17)) FU (v2 + 1) (v1 - 1) M_11))) FU (v1 - 1) M) else some (rI 0, M))
def mo_nextOrder (v1 : Int) (M : MM) : OR :=
  (mo_nextOrder_L4 v1 (fun v2_1 M_2 => (mo_nextOrder_J31   v1 v2_1 M_2)) FU (v1 - 2) M)
def mo_gate_L9  (v1 : Int) (K1 : Int → MM → OR) : Nat → Int → Int → MM → OR
  | 0, _, _, _ => none
  | n + 1, v2, v3, M => (bI (mo_brothers  M) fun z_5 M_4 => (bif cmpB .ge v3 z_5 then (K1 v2 M_4) else (bI (mo_ofBrother v3 5 M_4) fun z_8 M_7 => (bif cmpB .ge z_8 0 then (bif inB v2 7 then (sM (mU M_7 178 (v2).toNat v3) fun M_9 => (mo_gate_L9 v1 K1 n (v2 + 1) (v3 + 1) M_9)) else none) else (mo_gate_L9 v1 K1 n v2 (v3 + 1) M_7)))))
def mo_gate_L73  (v1 v2 v3 : Int) (K1 : MM → OR) : Nat → Int → MM → OR
  | 0, _, _ => none
  | n + 1, v5, M => (bif cmpB .ge v5 v2 then (K1  M) else (bif inB v5 7 then (bif inB v5 7 then (sM (mU M 179 (v5).toNat (M 178 (v5).toNat)) fun M_19 => (mo_gate_L73 v1 v2 v3 K1 n (v5 + 1) M_19)) else none) else none))
def mo_gate_J67  (v1 v2 : Int) (Kb : Int → MM → OR) (K1 : Int → MM → OR) (v4 : Int) (M : MM) : OR :=
  (mo_gate_L73 v1 v2 v4 (fun M_22 => (bI (mo_nextOrder v2 M_22) fun z_27 M_26 => (bif cmpB .ne z_27 0 then (Kb v4 M_26) else (K1 v4 M_26)))) FU 0 M)
def mo_gate_L47  (v1 v2 : Int) (K1 : Int → MM → OR) : Nat → Int → MM → OR
  | 0, _, _ => none
  | n + 1, v3, M => (bI (mo_lateness v2 M) fun z_18 M_17 => (bif cmpB .lt v3 0 then (mo_gate_J67 v1 v2 (mo_gate_L47 v1 v2 K1 n) K1 z_18 M_17) else (bif cmpB .lt z_18 v3 then (mo_gate_J67 v1 v2 (mo_gate_L47 v1 v2 K1 n) K1 z_18 M_17) else (bI (mo_nextOrder v2 M_17) fun z_30 M_29 => (bif cmpB .ne z_30 0 then (mo_gate_L47 v1 v2 K1 n v3 M_29) else (K1 v3 M_29))))))
def mo_gate (v1 : Int) (M : MM) : OR :=
  (sM (mU M 165 0 0) fun M_1 => (mo_gate_L9 v1 (fun v2_11 M_12 => (mo_gate_L47 v1 v2_11 (fun v3_31 M_32 => (bif cmpB .ne v1 (-1) then (bI (mo_in v1 0 (v2_11 - 1) M_32) fun z_37 M_36 => (bif cmpB .eq z_37 0 then some (rI (-1), M_36) else (bif inB v1 7 then some (rI (M_36 179 (v1).toNat), M_36) else none))) else some (rI v3_31, M_32))) FU (-1) M_12)) FU 0 0 M_1))
def mo_readTwos_L22  (v1 v2 : Int) (K1 : Int → MM → OR) : Nat → Int → Int → MM → OR
  | 0, _, _, _ => none
  | n + 1, v3, v4, M => (bif cmpB .ge (v4 + 1) (M 165 10) then (K1 v3 M) else (bif cmpB .eq v3 0 then (K1 v3 M) else (bif inB v4 400 then (bI (mo_in (M 170 (v4).toNat) 0 v1 M) fun z_6 M_5 => (bif cmpB .eq z_6 0 then (mo_readTwos_L22 v1 v2 K1 n 0 (v4 + 2) M_5) else (bif inB (v4 + 1) 400 then (bI (mo_in (M_5 170 ((v4 + 1)).toNat) 0 v2 M_5) fun z_9 M_8 => (bif cmpB .eq z_9 0 then (mo_readTwos_L22 v1 v2 K1 n 0 (v4 + 2) M_8) else (mo_readTwos_L22 v1 v2 K1 n 1 (v4 + 2) M_8))) else none))) else none)))
def mo_readTwos_J18   (v1 v2 s0 : Int) (M : MM) : OR :=
  (mo_readTwos_L22 v1 v2 (fun v3_10 M_11 => (bif zo v3_10 then some (rI v3_10, M_11) else none)) FU s0 0 M)
def mo_readTwos (v1 : Int) (v2 : Int) (M : MM) : OR :=
  (bV (mo_uses  M) fun M_2 => (bif cmpB .ne ((w32 (M_2 165 10)).tmod (w32 2)) 0 then (mo_readTwos_J18   v1 v2 0 M_2) else (mo_readTwos_J18   v1 v2 1 M_2)))
def mo_canBe (v1 : Int) (v2 : Int) (M : MM) : OR :=
  (bif inB ((2 * v1) + 1) 400 then (bI (mo_ofBrother v2 1 M) fun z_3 M_2 => (bI (mo_ofBrother v2 2 M_2) fun z_6 M_5 => (bI (mo_isFit (M 170 (((2 * v1) + 1)).toNat) z_3 z_6 M_5) fun z_9 M_8 => (bif cmpB .eq z_9 0 then some (rI 0, M_8) else (bI (mo_ofBrother v2 3 M_8) fun z_12 M_11 => (bif inB (2 * v1) 400 then (bif cmpB .gt ((w32 z_12).tmod (w32 24)) (M_11 170 ((2 * v1)).toNat) then some (rI 0, M_11) else some (rI 1, M_11)) else none)))))) else none)
def mo_plates_L90  (v1 v3 v4 v5 : Int) (K1 : Int → MM → OR) : Nat → Int → Int → MM → OR
  | 0, _, _, _ => none
  | n + 1, v6, v7, M => (bI (mo_brothers  M) fun z_12 M_11 => (bif cmpB .ge v7 z_12 then (K1 v6 M_11) else (bif cmpB .ge v4 v3 then (K1 v6 M_11) else (bI (mo_has v5 v7 M_11) fun z_15 M_14 => (bif cmpB .ne z_15 0 then (mo_plates_L90 v1 v3 v4 v5 K1 n (v6 + 0) (v7 + 1) M_14) else (bI (mo_canBe v4 v7 M_14) fun z_18 M_17 => (bif cmpB .eq z_18 0 then (mo_plates_L90 v1 v3 v4 v5 K1 n (v6 + 0) (v7 + 1) M_17) else (bif inB (iOr (iOr (iShl (v4 + 1) 7) v5) (iShl 1 v7)) 1024 then (mo_plates_L90 v1 v3 v4 v5 K1 n (v6 + (M_17 180 ((iOr (iOr (iShl (v4 + 1) 7) v5) (iShl 1 v7))).toNat)) (v7 + 1) M_17) else none))))))))
def mo_plates_J85  (v1 v3 v4 : Int) (Kb : Int → MM → OR) (K1 : MM → OR) (v5 s0 : Int) (M : MM) : OR :=
  (mo_plates_L90 v1 v3 v4 v5 (fun v6_19 M_20 => (bif inB (iOr (iShl v4 7) v5) 1024 then (sM (mU M_20 180 ((iOr (iShl v4 7) v5)).toNat v6_19) fun M_23 => (Kb (v5 + 1) M_23)) else none)) FU s0 0 M)
def mo_plates_L63  (v1 v3 v4 : Int) (K1 : MM → OR) : Nat → Int → MM → OR
  | 0, _, _ => none
  | n + 1, v5, M => (bI (mo_brothers  M) fun z_9 M_8 => (bif cmpB .ge v5 (iShl 1 z_9) then (K1  M_8) else (bif cmpB .ne v4 v3 then (mo_plates_J85 v1 v3 v4 (mo_plates_L63 v1 v3 v4 K1 n) K1 v5 0 M_8) else (mo_plates_J85 v1 v3 v4 (mo_plates_L63 v1 v3 v4 K1 n) K1 v5 1 M_8))))
def mo_plates_L55  (v1 v3 : Int) (K1 : MM → OR) : Nat → Int → MM → OR
  | 0, _, _ => none
  | n + 1, v4, M => (bif cmpB .lt v4 0 then (K1  M) else (mo_plates_L63 v1 v3 v4 (fun M_25 => (mo_plates_L55 v1 v3 K1 n (v4 + (-1)) M_25)) FU 0 M))
def mo_plates_L236  (v1 v4 v6 : Int) (K1 : Int → MM → OR) : Nat → Int → MM → OR
  | 0, _, _ => none
  | n + 1, v5, M => (bI (mo_has v4 v5 M) fun z_40 M_39 => (bif cmpB .ne z_40 0 then (mo_plates_L236 v1 v4 v6 K1 n (v5 + 1) M_39) else (bI (mo_canBe v6 v5 M_39) fun z_43 M_42 => (bif cmpB .eq z_43 0 then (mo_plates_L236 v1 v4 v6 K1 n (v5 + 1) M_42) else (bif inB (iOr (iOr (iShl (v6 + 1) 7) v4) (iShl 1 v5)) 1024 then (bif cmpB .ne (M_42 180 ((iOr (iOr (iShl (v6 + 1) 7) v4) (iShl 1 v5))).toNat) 0 then (K1 v5 M_42) else (mo_plates_L236 v1 v4 v6 K1 n (v5 + 1) M_42)) else none)))))
def mo_plates_L227  (v1 : Int) (K1 : Int → MM → OR) : Nat → Int → Int → Int → MM → OR
  | 0, _, _, _, _ => none
  | n + 1, v4, v5, v6, M => (bif cmpB .gt v6 v1 then (K1 v5 M) else (mo_plates_L236 v1 v4 v6 (fun v5_44 M_45 => (mo_plates_L227 v1 K1 n (iOr v4 (iShl 1 v5_44)) v5_44 (v6 + 1) M_45)) FU 0 M))
def mo_plates_J43   (v1 v3 s0 : Int) (M : MM) : OR :=
  (bI (mo_throwsIf s0 1 M) fun z_6 M_5 => (bif cmpB .eq z_6 0 then (mo_plates_L55 v1 v3 (fun M_30 => (bif cmpB .eq v1 (-1) then (bif cmpB .ne v1 (-1) then some (rI (-1), M_30) else (bif inB 0 1024 then some (rI (M_30 180 0), M_30) else none)) else (bif inB 0 1024 then (bif cmpB .ne (M_30 180 0) 0 then (mo_plates_L227 v1 (fun v5_50 M_51 => some (rI v5_50, M_51)) FU 0 (-1) 0 M_30) else (bif cmpB .ne v1 (-1) then some (rI (-1), M_30) else (bif inB 0 1024 then some (rI (M_30 180 0), M_30) else none))) else none))) FU v3 M_5) else some (rI 0, M_5)))
def mo_plates_J38   (v1 v3 : Int) (M : MM) : OR :=
  (mo_plates_J43   v1 v3 1 M)
def mo_plates (v1 : Int) (M : MM) : OR :=
  (bI (mo_readTwos 23 15 M) fun z_3 M_2 => (bif cmpB .eq z_3 0 then (mo_plates_J38   v1 ((w32 (M_2 165 10)).tdiv (w32 2)) M_2) else (bif cmpB .gt ((w32 (M_2 165 10)).tdiv (w32 2)) 7 then (mo_plates_J38   v1 ((w32 (M_2 165 10)).tdiv (w32 2)) M_2) else (bI (mo_in v1 (-1) (((w32 (M_2 165 10)).tdiv (w32 2)) - 1) M_2) fun z_61 M_60 => (bif cmpB .ne z_61 0 then (mo_plates_J43   v1 ((w32 (M_2 165 10)).tdiv (w32 2)) 0 M_60) else (mo_plates_J38   v1 ((w32 (M_2 165 10)).tdiv (w32 2)) M_60))))))
def mo_tellsAll_L5  (v1 v2 : Int) (K1 : Int → MM → OR) : Nat → Int → Int → MM → OR
  | 0, _, _, _ => none
  | n + 1, v3, v4, M => (bif cmpB .ge v4 (M 165 10) then (K1 v3 M) else (bif cmpB .eq v3 0 then (K1 v3 M) else (bif inB v4 400 then (bI (mo_isFit (M 170 (v4).toNat) v1 v2 M) fun z_3 M_2 => (bif inB (v4 + 1) 400 then (bif cmpB .ne (M_2 170 ((v4 + 1)).toNat) 1 then (bif cmpB .ne z_3 0 then (mo_tellsAll_L5 v1 v2 K1 n 0 (v4 + 2) M_2) else (mo_tellsAll_L5 v1 v2 K1 n 1 (v4 + 2) M_2)) else (bif cmpB .ne z_3 1 then (mo_tellsAll_L5 v1 v2 K1 n 0 (v4 + 2) M_2) else (mo_tellsAll_L5 v1 v2 K1 n 1 (v4 + 2) M_2))) else none)) else none)))
def mo_tellsAll (v1 : Int) (v2 : Int) (M : MM) : OR :=
  (mo_tellsAll_L5 v1 v2 (fun v3_4 M_5 => (bif zo v3_4 then some (rI v3_4, M_5) else none)) FU 1 0 M)
def mo_sews_J38  (v0 v1 v2 v4 : Int) (Kb : Int → Int → Int → MM → OR) (K1 : Int → MM → OR) (v5 v6 v7 s0 : Int) (M : MM) : OR :=
  (bif cmpB .eq s0 0 then (bif cmpB .eq s0 0 then (Kb (v5 + 0) 0 (v7 + 1) M) else (bif nz v1 then (bif cmpB .ne ((w32 0).tmod (w32 v1)) 0 then (Kb (v5 + 0) 0 (v7 + 1) M) else (Kb (v5 + 1) 0 (v7 + 1) M)) else none)) else (bif cmpB .eq s0 0 then (Kb (v5 + 0) (v6 + 1) (v7 + 1) M) else (bif nz v1 then (bif cmpB .ne ((w32 (v6 + 1)).tmod (w32 v1)) 0 then (Kb (v5 + 0) (v6 + 1) (v7 + 1) M) else (Kb (v5 + 1) (v6 + 1) (v7 + 1) M)) else none)))
def mo_sews_J33  (v0 v1 v2 v4 : Int) (Kb : Int → Int → Int → MM → OR) (K1 : Int → MM → OR) (v5 v6 v7 : Int) (M : MM) : OR :=
  (mo_sews_J38 v0 v1 v2 v4 Kb K1 v5 v6 v7 1 M)
def mo_sews_L9  (v0 v1 v2 v4 : Int) (K1 : Int → MM → OR) : Nat → Int → Int → Int → MM → OR
  | 0, _, _, _, _ => none
  | n + 1, v5, v6, v7, M => (bif cmpB .ge v7 v0 then (K1 v5 M) else (bif cmpB .eq v7 v4 then (mo_sews_J33 v0 v1 v2 v4 (mo_sews_L9 v0 v1 v2 v4 K1 n) K1 v5 v6 v7 M) else (bif cmpB .ne (lCmp (lAnd (lShr v2 v7) 1) 0) 0 then (mo_sews_J38 v0 v1 v2 v4 (mo_sews_L9 v0 v1 v2 v4 K1 n) K1 v5 v6 v7 0 M) else (mo_sews_J33 v0 v1 v2 v4 (mo_sews_L9 v0 v1 v2 v4 K1 n) K1 v5 v6 v7 M))))
def mo_sews (v0 : Int) (v1 : Int) (v2 : Int) (v4 : Int) (M : MM) : OR :=
  (mo_sews_L9 v0 v1 v2 v4 (fun v5_1 M_2 => some (rI v5_1, M_2)) FU 0 0 0 M)
def mo_shirts_L52  (v1 v2 v3 v5 : Int) (K1 : Int → MM → OR) : Nat → Int → Int → MM → OR
  | 0, _, _, _ => none
  | n + 1, v6, v7, M => (bif cmpB .ge v7 v1 then (K1 v6 M) else (bif cmpB .eq v5 0 then (K1 v6 M) else (bI (mo_sews v1 v2 v3 v7 M) fun z_14 M_13 => (mo_shirts_L52 v1 v2 v3 v5 K1 n (imax v6 z_14) (v7 + 1) M_13))))
def mo_shirts_J31   (v1 v2 v3 v5 s0 : Int) (M : MM) : OR :=
  (bI (mo_throwsIf s0 1 M) fun z_8 M_7 => (bif cmpB .eq z_8 0 then (bI (mo_sews v1 v2 v3 (-1) M_7) fun z_11 M_10 => (mo_shirts_L52 v1 v2 v3 v5 (fun v6_15 M_16 => some (rI v6_15, M_16)) FU z_11 0 M_10)) else some (rI 0, M_7)))
def mo_shirts_J26   (v1 v2 v3 v5 : Int) (M : MM) : OR :=
  (mo_shirts_J31   v1 v2 v3 v5 1 M)
def mo_shirts (v1 : Int) (v2 : Int) (v3 : Int) (v5 : Int) (M : MM) : OR :=
  (sM (mU M 165 0 0) fun M_1 => (bI (mo_in v1 1 64 M_1) fun z_5 M_4 => (bif cmpB .eq z_5 0 then (mo_shirts_J26   v1 v2 v3 v5 M_4) else (bI (mo_in v2 1 9 M_4) fun z_26 M_25 => (bif cmpB .ne z_26 0 then (mo_shirts_J31   v1 v2 v3 v5 0 M_25) else (mo_shirts_J26   v1 v2 v3 v5 M_25))))))
def mo_log_J20   (v1 v2 s0 : Int) (M : MM) : OR :=
  (bI (mo_throwsIf s0 1 M) fun z_8 M_7 => (bif cmpB .eq z_8 0 then (bif inB 9 1964 then (bI (mo_in v1 0 ((M_7 166 9) - 1) M_7) fun z_11 M_10 => (bif cmpB .eq z_11 0 then some (rI (-1), M_10) else (bif inB ((236 + (3 * v1)) + v2) 1964 then some (rI (M_10 166 (((236 + (3 * v1)) + v2)).toNat), M_10) else none))) else none) else some (rI 0, M_7)))
def mo_log (v1 : Int) (v2 : Int) (M : MM) : OR :=
  (sM (mU M 165 0 0) fun M_1 => (bI (mo_in v2 0 2 M_1) fun z_5 M_4 => (bif cmpB .ne z_5 0 then (mo_log_J20   v1 v2 0 M_4) else (mo_log_J20   v1 v2 1 M_4))))
def mo_keepers_L4  (K1 : Int → MM → OR) : Nat → Int → Int → MM → OR
  | 0, _, _, _ => none
  | n + 1, v1, v2, M => (bI (mo_places  M) fun z_3 M_2 => (bif cmpB .ge v2 z_3 then (K1 v1 M_2) else (bI (mo_isKeeper v2 M_2) fun z_6 M_5 => (bif cmpB .eq z_6 0 then (mo_keepers_L4  K1 n (v1 + 0) (v2 + 1) M_5) else (mo_keepers_L4  K1 n (v1 + 1) (v2 + 1) M_5)))))
def mo_keepers  (M : MM) : OR :=
  (mo_keepers_L4  (fun v1_7 M_8 => some (rI v1_7, M_8)) FU 0 0 M)
def mo_count (v1 : Int) (M : MM) : OR :=
  (sM (mU M 165 0 0) fun M_1 => (bif cmpB .eq v1 4 then (bI (mo_keepers  M_1) fun z_6 M_5 => some (rI z_6, M_5)) else (bif cmpB .eq v1 5 then (bif inB 4 1964 then some (rI (M_1 166 4), M_1) else none) else (bif cmpB .eq v1 6 then (bif inB 5 1964 then (bif cmpB .ne (M_1 166 5) 1 then some (rI (-1), M_1) else (bif inB 266 1964 then some (rI (M_1 166 266), M_1) else none)) else none) else (bif cmpB .eq v1 7 then (bif inB 6 1964 then some (rI (M_1 166 6), M_1) else none) else (bif cmpB .eq v1 8 then (bI (mo_passedNow  M_1) fun z_13 M_12 => some (rI z_13, M_12)) else (bif cmpB .eq v1 9 then (bI (mo_freedNow  M_1) fun z_17 M_16 => some (rI z_17, M_16)) else (bif cmpB .eq v1 10 then (bJ (mo_now  M_1) fun z_21 M_20 => (bI (mo_thingsIn z_21 3 M_20) fun z_24 M_23 => some (rI z_24, M_23))) else (bif cmpB .eq v1 11 then (bJ (mo_now  M_1) fun z_28 M_27 => (bI (mo_thingsIn z_28 3 M_27) fun z_31 M_30 => (bI (mo_worthOf z_31 M_30) fun z_34 M_33 => some (rI z_34, M_33)))) else (bif cmpB .eq v1 12 then some (rI (M_1 165 6), M_1) else (bI (mo_in v1 0 3 M_1) fun z_38 M_37 => (bif cmpB .eq z_38 0 then some (rI (-1), M_37) else (bif inB v1 1964 then some (rI (M_37 166 (v1).toNat), M_37) else none)))))))))))))
def jdk_bitCount (v0 : Int) (M : MM) : OR :=
  some (rI (iAnd (((iAnd (((iAnd (v0 - (iAnd (iUshr v0 1) 1431655765)) 858993459) + (iAnd (iUshr (v0 - (iAnd (iUshr v0 1) 1431655765)) 2) 858993459)) + (iUshr ((iAnd (v0 - (iAnd (iUshr v0 1) 1431655765)) 858993459) + (iAnd (iUshr (v0 - (iAnd (iUshr v0 1) 1431655765)) 2) 858993459)) 4)) 252645135) + (iUshr (iAnd (((iAnd (v0 - (iAnd (iUshr v0 1) 1431655765)) 858993459) + (iAnd (iUshr (v0 - (iAnd (iUshr v0 1) 1431655765)) 2) 858993459)) + (iUshr ((iAnd (v0 - (iAnd (iUshr v0 1) 1431655765)) 858993459) + (iAnd (iUshr (v0 - (iAnd (iUshr v0 1) 1431655765)) 2) 858993459)) 4)) 252645135) 8)) + (iUshr ((iAnd (((iAnd (v0 - (iAnd (iUshr v0 1) 1431655765)) 858993459) + (iAnd (iUshr (v0 - (iAnd (iUshr v0 1) 1431655765)) 2) 858993459)) + (iUshr ((iAnd (v0 - (iAnd (iUshr v0 1) 1431655765)) 858993459) + (iAnd (iUshr (v0 - (iAnd (iUshr v0 1) 1431655765)) 2) 858993459)) 4)) 252645135) + (iUshr (iAnd (((iAnd (v0 - (iAnd (iUshr v0 1) 1431655765)) 858993459) + (iAnd (iUshr (v0 - (iAnd (iUshr v0 1) 1431655765)) 2) 858993459)) + (iUshr ((iAnd (v0 - (iAnd (iUshr v0 1) 1431655765)) 858993459) + (iAnd (iUshr (v0 - (iAnd (iUshr v0 1) 1431655765)) 2) 858993459)) 4)) 252645135) 8)) 16)) 63), M)
def drv_shirts (v1 : Int) (v2 : Int) (v3 : Int) (v5 : Int) (M : MM) : OR :=
  (bH (gh_shirts v1 v2 v3 v5 M) (fun z_3 M_2 => (bif inB 0 1 then (sM (mU M_2 181 0 (w32 z_3)) fun M_4 => some (rI 0, M_4)) else none)) fun c_6 M_2 => (bif Nat.beq c_6 13 then some (rI 1, M_2) else none))
def drv_log (v1 : Int) (v2 : Int) (M : MM) : OR :=
  (bH (gh_log v1 v2 M) (fun z_3 M_2 => (bif inB 0 1 then (sM (mU M_2 181 0 (w32 z_3)) fun M_4 => some (rI 0, M_4)) else none)) fun c_6 M_2 => (bif Nat.beq c_6 16 then some (rI 1, M_2) else none))
def jny_lot (a : Nat) (v1 : Int) (M : MM) : OR :=
  (bI (gh_bit (M a 4) v1 M) fun z_3 M_2 => (bif cmpB .ne z_3 1 then (bI (gh_bit (M_2 a 3) v1 M_2) fun z_6 M_5 => (bif cmpB .ne z_6 1 then (bI (gh_bit (M_5 a 5) v1 M_5) fun z_9 M_8 => (bif cmpB .ne z_9 1 then some (rI 0, M_8) else some (rI 1, M_8))) else some (rI 2, M_5))) else some (rI 3, M_2)))
def jny_lying_L4 (a : Nat) (v1 : Int) (K1 : Int → MM → OR) : Nat → Int → Int → MM → OR
  | 0, _, _, _ => none
  | n + 1, v2, v3, M => (bif cmpB .ge v3 10 then (K1 v2 M) else (bif inB v3 10 then (bif cmpB .ne (M (a + 1) (v3).toNat) v1 then (jny_lying_L4 a v1 K1 n v2 (v3 + 1) M) else (bI (jny_lot a v3 M) fun z_3 M_2 => (bif cmpB .ne z_3 0 then (jny_lying_L4 a v1 K1 n v2 (v3 + 1) M_2) else (jny_lying_L4 a v1 K1 n (iOr v2 (iShl 1 v3)) (v3 + 1) M_2)))) else none))
def jny_lying (a : Nat) (v1 : Int) (M : MM) : OR :=
  (jny_lying_L4 a v1 (fun v2_4 M_5 => some (rI v2_4, M_5)) FU 0 0 M)
def land_hasKeeper (a : Nat) (v1 : Int) (M : MM) : OR :=
  (bI (gh_bit (M a 5) v1 M) fun z_3 M_2 => (bif cmpB .ne z_3 1 then some (rI 0, M_2) else some (rI 1, M_2)))
def land_isHeldBy (a : Nat) (v1 : Int) (v2 : Int) (M : MM) : OR :=
  (bI (gh_bit (iAnd (M a 5) (iXor v2 (-1))) v1 M) fun z_3 M_2 => (bif cmpB .ne z_3 1 then some (rI 0, M_2) else some (rI 1, M_2)))
def land_eatsAt (a : Nat) (v1 : Int) (v2 : Int) (M : MM) : OR :=
  (bI (land_hasKeeper a v1 M) fun z_3 M_2 => (bif cmpB .eq z_3 0 then some (rI 0, M_2) else (bif inB v1 10 then (bif cmpB .ne (M_2 (a + 3) (v1).toNat) (-1) then (bif inB v1 10 then (bif cmpB .lt ((w32 v2).tmod (w32 24)) (M_2 (a + 3) (v1).toNat) then some (rI 0, M_2) else (bif inB v1 10 then (bif cmpB .gt ((w32 v2).tmod (w32 24)) (M_2 (a + 4) (v1).toNat) then some (rI 0, M_2) else some (rI 1, M_2)) else none)) else none) else some (rI 0, M_2)) else none)))
def land_worthOf_L4 (a : Nat) (v1 : Int) (K1 : Int → MM → OR) : Nat → Int → Int → MM → OR
  | 0, _, _, _ => none
  | n + 1, v2, v3, M => (bif cmpB .ge v3 (M a 1) then (K1 v2 M) else (bif cmpB .ge v3 10 then (K1 v2 M) else (bI (gh_bit v1 v3 M) fun z_3 M_2 => (bif cmpB .ne z_3 1 then (land_worthOf_L4 a v1 K1 n v2 (v3 + 1) M_2) else (bif inB v3 10 then (land_worthOf_L4 a v1 K1 n (v2 + (M_2 (a + 7) (v3).toNat)) (v3 + 1) M_2) else none)))))
def land_worthOf (a : Nat) (v1 : Int) (M : MM) : OR :=
  (land_worthOf_L4 a v1 (fun v2_4 M_5 => some (rI v2_4, M_5)) FU 0 0 M)
def land_cheapest_L4 (a : Nat) (v1 : Int) (K1 : Int → MM → OR) : Nat → Int → Int → MM → OR
  | 0, _, _, _ => none
  | n + 1, v2, v3, M => (bif cmpB .ge v3 (M a 1) then (K1 v2 M) else (bif cmpB .ge v3 10 then (K1 v2 M) else (bI (gh_bit v1 v3 M) fun z_3 M_2 => (bif cmpB .ne z_3 1 then (land_cheapest_L4 a v1 K1 n v2 (v3 + 1) M_2) else (bif cmpB .eq v2 (-1) then (land_cheapest_L4 a v1 K1 n v3 (v3 + 1) M_2) else (bif inB v3 10 then (bif inB v2 10 then (bif cmpB .ge (M_2 (a + 7) (v3).toNat) (M_2 (a + 7) (v2).toNat) then (land_cheapest_L4 a v1 K1 n v2 (v3 + 1) M_2) else (land_cheapest_L4 a v1 K1 n v3 (v3 + 1) M_2)) else none) else none))))))
def land_cheapest (a : Nat) (v1 : Int) (M : MM) : OR :=
  (land_cheapest_L4 a v1 (fun v2_4 M_5 => some (rI v2_4, M_5)) FU (-1) 0 M)
def law_holds_J128 (a : Nat) (v1 : Int) (Kb : Int → Int → MM → OR) (K1 : Int → MM → OR) (v2 v3 v4 : Int) (M : MM) : OR :=
  (bif cmpB .le v4 1008 then (Kb v2 (v3 + 1) M) else (bif cmpB .lt v2 2 then (Kb v2 (v3 + 1) M) else (bif inB ((v2 + (-1)) - 1) 32 then (bif inB (v2 + (-1)) 32 then (bI (law_joined v4 (M (a + 5) (((v2 + (-1)) - 1)).toNat) (M (a + 5) ((v2 + (-1))).toNat) M) fun z_3 M_2 => (bif inB ((v2 + (-1)) - 1) 32 then (sM (mU M_2 (a + 5) (((v2 + (-1)) - 1)).toNat z_3) fun M_4 => (Kb (v2 + (-1)) (v3 + 1) M_4)) else none)) else none) else none)))
def law_holds_J94 (a : Nat) (v1 : Int) (Kb : Int → Int → MM → OR) (K1 : Int → MM → OR) (v2 v3 v4 : Int) (M : MM) : OR :=
  (bif cmpB .ne v4 1008 then (law_holds_J128 a v1 Kb K1 v2 v3 v4 M) else (bif cmpB .lt v2 1 then (law_holds_J128 a v1 Kb K1 v2 v3 v4 M) else (bif inB (v2 - 1) 32 then (bif inB (v2 - 1) 32 then (sM (mU M (a + 5) ((v2 - 1)).toNat (1 - (M (a + 5) ((v2 - 1)).toNat))) fun M_6 => (Kb v2 (v3 + 1) M_6)) else none) else none)))
def law_holds_L19 (a : Nat) (v1 : Int) (K1 : Int → MM → OR) : Nat → Int → Int → MM → OR
  | 0, _, _, _ => none
  | n + 1, v2, v3, M => (bif inB v1 12 then (bif cmpB .ge v3 (M (a + 2) (v1).toNat) then (K1 v2 M) else (bif cmpB .ge v3 400 then (K1 v2 M) else (bif inB v3 400 then (bif cmpB .ge (M (a + 3) (v3).toNat) 1008 then (law_holds_J94 a v1 (law_holds_L19 a v1 K1 n) K1 v2 v3 (M (a + 3) (v3).toNat) M) else (bif cmpB .ge v2 32 then (law_holds_J94 a v1 (law_holds_L19 a v1 K1 n) K1 v2 v3 (M (a + 3) (v3).toNat) M) else (bif cmpB .ge (M (a + 3) (v3).toNat) 1000 then (bif inB ((M (a + 3) (v3).toNat) - 1000) 8 then (bif inB v2 32 then (sM (mU M (a + 5) (v2).toNat (M (a + 4) (((M (a + 3) (v3).toNat) - 1000)).toNat)) fun M_8 => (law_holds_L19 a v1 K1 n (v2 + 1) (v3 + 1) M_8)) else none) else none) else (bif inB v2 32 then (sM (mU M (a + 5) (v2).toNat (M (a + 3) (v3).toNat)) fun M_10 => (law_holds_L19 a v1 K1 n (v2 + 1) (v3 + 1) M_10)) else none)))) else none))) else none)
def law_holds_J18 (a : Nat)  (v1 v2 s0 : Int) (M : MM) : OR :=
  (law_holds_L19 a v1 (fun v2_12 M_13 => (bif cmpB .eq v2_12 0 then some (rI 1, M_13) else (bif inB 0 32 then (bif cmpB .eq (M_13 (a + 5) 0) 0 then some (rI 0, M_13) else some (rI 1, M_13)) else none))) FU v2 s0 M)
def law_holds (a : Nat) (v1 : Int) (M : MM) : OR :=
  (bif cmpB .ne v1 0 then (bif inB (v1 - 1) 12 then (law_holds_J18 a  v1 0 (M (a + 2) ((v1 - 1)).toNat) M) else none) else (law_holds_J18 a  v1 0 0 M))
def lawr_isTooDeep (v1 : Int) (M : MM) : OR :=
  (bif cmpB .ge v1 6 then (bV (tape_failAt (M 1 3) M) fun M_2 => some (rI 1, M_2)) else some (rI 0, M))
def ridd_orderOn_L41 (R : Int → Int → Int → Int → MM → OR)  (v1 v2 v3 v4 : Int) (K1 : MM → OR) : Nat → Int → MM → OR
  | 0, _, _ => none
  | n + 1, v5, M => (bif cmpB .ge v5 7 then (K1  M) else (bI (gh_bit v2 v5 M) fun z_8 M_7 => (bif cmpB .ne z_8 1 then (ridd_orderOn_L41 R v1 v2 v3 v4 K1 n (v5 + 1) M_7) else (bif inB v5 7 then (bif inB v5 7 then (bif inB v1 7 then (sM (mU M_7 162 (v1).toNat v5) fun M_9 => (bif inB v5 7 then (bV (R (v1 + 1) (iAnd v2 (iXor (iShl 1 v5) (-1))) ((imax v3 ((M_7 25 (v5).toNat) + (M_7 15 (v5).toNat))) + 1) (imax v4 ((imax v3 ((M_7 25 (v5).toNat) + (M_7 15 (v5).toNat))) - (M_9 16 (v5).toNat))) M_9) fun M_12 => (ridd_orderOn_L41 R v1 v2 v3 v4 K1 n (v5 + 1) M_12)) else none)) else none) else none) else none))))
def ridd_orderOn (R : Int → Int → Int → Int → MM → OR) (v1 : Int) (v2 : Int) (v3 : Int) (v4 : Int) (M : MM) : OR :=
  (bif cmpB .lt v4 (M 161 5) then (bif cmpB .eq v2 0 then (sM (mU M 161 5 v4) fun M_1 => (bV (land_copyRow 162 163 7 M_1) fun M_4 => some (rV, M_4))) else (bif cmpB .lt v1 7 then (ridd_orderOn_L41 R v1 v2 v3 v4 (fun M_14 => some (rV, M_14)) FU 0 M) else (sM (mU M 161 5 v4) fun M_22 => (bV (land_copyRow 162 163 7 M_22) fun M_25 => some (rV, M_25))))) else some (rV, M))
def ridd_orderOn_F : Nat → Int → Int → Int → Int → MM → OR
  | 0, _, _, _, _, _ => none
  | n + 1, u0, u1, u2, u3, M => ridd_orderOn (ridd_orderOn_F n) u0 u1 u2 u3 M
def ridd_countWays_L36  (v1 v2 v3 : Int) (K1 : MM → OR) : Nat → Int → MM → OR
  | 0, _, _ => none
  | n + 1, v4, M => (bif cmpB .ge v4 (M 3 3) then (K1  M) else (bif cmpB .ge v4 7 then (K1  M) else (bif cmpB .ge v3 v1 then (K1  M) else (bI (gh_bit v2 v4 M) fun z_11 M_10 => (bif cmpB .ne z_11 0 then (ridd_countWays_L36 v1 v2 v3 K1 n (v4 + 1) M_10) else (bI (ridd_canBeHis v3 v4 M_10) fun z_14 M_13 => (bif cmpB .eq z_14 0 then (ridd_countWays_L36 v1 v2 v3 K1 n (v4 + 1) M_13) else (bif inB v2 128 then (bif inB (iOr v2 (iShl 1 v4)) 128 then (bif inB v2 128 then (sM (mU M_13 164 (v2).toNat ((M_13 164 (v2).toNat) + (M_13 164 ((iOr v2 (iShl 1 v4))).toNat))) fun M_15 => (ridd_countWays_L36 v1 v2 v3 K1 n (v4 + 1) M_15)) else none) else none) else none))))))))
def ridd_countWays_J32  (v1 : Int) (Kb : Int → MM → OR) (K1 : MM → OR) (v2 v3 s0 s1 : Int) (M : MM) : OR :=
  (bif inB s1 128 then (sM (mU M 164 (s1).toNat s0) fun M_7 => (ridd_countWays_L36 v1 v2 v3 (fun M_17 => (Kb (v2 + (-1)) M_17)) FU 0 M_7)) else none)
def ridd_countWays_L8  (v1 : Int) (K1 : MM → OR) : Nat → Int → MM → OR
  | 0, _, _ => none
  | n + 1, v2, M => (bif cmpB .lt v2 0 then (K1  M) else (bI (jdk_bitCount v2 M) fun z_6 M_5 => (bif cmpB .ne z_6 v1 then (ridd_countWays_J32 v1 (ridd_countWays_L8 v1 K1 n) K1 v2 z_6 0 v2 M_5) else (ridd_countWays_J32 v1 (ridd_countWays_L8 v1 K1 n) K1 v2 z_6 1 v2 M_5))))
def ridd_countWays (v1 : Int) (M : MM) : OR :=
  (bI (land_allBrothers 3 M) fun z_3 M_2 => (ridd_countWays_L8 v1 (fun M_20 => some (rV, M_20)) FU z_3 M_2))
def ridd_leastThatGoesOn_L2  (v1 v2 : Int) (K1 : MM → OR) (K2 : Int → MM → OR) : Nat → Int → MM → OR
  | 0, _, _ => none
  | n + 1, v3, M => (bif cmpB .ge v3 (M 3 3) then (K1  M) else (bif cmpB .ge v3 7 then (K1  M) else (bI (gh_bit v2 v3 M) fun z_3 M_2 => (bif cmpB .ne z_3 0 then (ridd_leastThatGoesOn_L2 v1 v2 K1 K2 n (v3 + 1) M_2) else (bI (ridd_canBeHis v1 v3 M_2) fun z_6 M_5 => (bif cmpB .eq z_6 0 then (ridd_leastThatGoesOn_L2 v1 v2 K1 K2 n (v3 + 1) M_5) else (bif inB (iOr v2 (iShl 1 v3)) 128 then (bif cmpB .le (M_5 164 ((iOr v2 (iShl 1 v3))).toNat) 0 then (ridd_leastThatGoesOn_L2 v1 v2 K1 K2 n (v3 + 1) M_5) else (K2 v3 M_5)) else none)))))))
def ridd_leastThatGoesOn (v1 : Int) (v2 : Int) (M : MM) : OR :=
  (ridd_leastThatGoesOn_L2 v1 v2 (fun M_7 => some (rI (-1), M_7)) (fun v3_12 M_13 => some (rI v3_12, M_13)) FU 0 M)
def ridd_locksAnswer_L8  (v1 v2 : Int) (K1 : Int → Int → MM → OR) : Nat → Int → Int → Int → MM → OR
  | 0, _, _, _, _ => none
  | n + 1, v3, v4, v5, M => (bif cmpB .ge v5 v1 then (K1 v3 v4 M) else (bif cmpB .ge ((2 * v5) + 1) 400 then (K1 v3 v4 M) else (bif inB ((2 * v5) + 1) 400 then (bif cmpB .ne (M 2 (((2 * v5) + 1)).toNat) 1 then (bif inB (2 * v5) 400 then (ridd_locksAnswer_L8 v1 v2 K1 n v3 (iOr v4 (iShl 1 (M 2 ((2 * v5)).toNat))) (v5 + 1) M) else none) else (bif inB (2 * v5) 400 then (ridd_locksAnswer_L8 v1 v2 K1 n (iOr v3 (iShl 1 (M 2 ((2 * v5)).toNat))) v4 (v5 + 1) M) else none)) else none)))
def ridd_locksAnswer_L98  (v2 v3 v4 : Int) (K1 : Int → Int → MM → OR) : Nat → Int → Int → Int → MM → OR
  | 0, _, _, _, _ => none
  | n + 1, v5, v6, v7, M => (bif cmpB .ge v7 256 then (K1 v5 v6 M) else (bI (ridd_agrees ((w32 v7).tdiv (w32 16)) ((w32 v7).tmod (w32 16)) v3 v4 M) fun z_12 M_11 => (bif cmpB .eq z_12 0 then (ridd_locksAnswer_L98 v2 v3 v4 K1 n v5 v6 (v7 + 1) M_11) else (bif cmpB .eq v6 (-1) then (ridd_locksAnswer_L98 v2 v3 v4 K1 n (v5 + 1) v7 (v7 + 1) M_11) else (bI (jdk_bitCount ((w32 v7).tdiv (w32 16)) M_11) fun z_15 M_14 => (bI (jdk_bitCount ((w32 v6).tdiv (w32 16)) M_14) fun z_18 M_17 => (bif cmpB .ge z_15 z_18 then (ridd_locksAnswer_L98 v2 v3 v4 K1 n (v5 + 1) v6 (v7 + 1) M_17) else (ridd_locksAnswer_L98 v2 v3 v4 K1 n (v5 + 1) v7 (v7 + 1) M_17))))))))
def ridd_locksAnswer_J89   (v2 v3 v4 : Int) (M : MM) : OR :=
  (ridd_locksAnswer_L98 v2 v3 v4 (fun v5_19 v6_20 M_21 => (bif cmpB .eq v2 0 then some (rI v5_19, M_21) else some (rI v6_20, M_21))) FU 0 (-1) 0 M)
def ridd_locksAnswer (v1 : Int) (v2 : Int) (M : MM) : OR :=
  (ridd_locksAnswer_L8 v1 v2 (fun v3_1 v4_2 M_3 => (ridd_locksAnswer_J89   v2 v3_1 v4_2 M_3)) FU 0 0 0 M)
def srch_prepare_L20 (q : Nat) (K1 : MM → OR) : Nat → Int → MM → OR
  | 0, _, _ => none
  | n + 1, v1, M => (bif cmpB .ge v1 17 then (K1  M) else (bI (land_openers 3 v1 M) fun z_13 M_12 => (bif inB v1 17 then (sM (mU M_12 1003 (v1).toNat z_13) fun M_15 => (srch_prepare_L20 q K1 n (v1 + 1) M_15)) else none)))
def srch_prepare_L48 (q : Nat) (K1 : MM → OR) : Nat → Int → MM → OR
  | 0, _, _ => none
  | n + 1, v1, M => (bif cmpB .ge v1 10 then (K1  M) else (bI (jny_lying 23 v1 M) fun z_23 M_22 => (bif inB v1 10 then (sM (mU M_22 1004 (v1).toNat z_23) fun M_25 => (srch_prepare_L48 q K1 n (v1 + 1) M_25)) else none)))
def srch_prepare (q : Nat) (M : MM) : OR :=
  (sM (mU M 1000 3 0) fun M_1 => (sM (mU M_1 1000 4 0) fun M_4 => (bV (jdk_fill 1002 16384 0 M_4) fun M_8 => (srch_prepare_L20 q (fun M_18 => (srch_prepare_L48 q (fun M_28 => some (rV, M_28)) FU 0 M_18)) FU 0 M_8))))
def srch_addWait (q : Nat) (v1 : Int) (M : MM) : OR :=
  (bif cmpB .ge (M 1000 10) 30 then some (rV, M) else (bI (land_eatsAt 3 (M 1000 11) (((M 23 1) + (M 1000 10)) + 1) M) fun z_3 M_2 => (bif cmpB .ne z_3 0 then some (rV, M_2) else (bV (srch_add q (v1 + 72057594037927936) M_2) fun M_6 => some (rV, M_6)))))
def srch_addFrees_L8 (q : Nat) (v1 v3 : Int) (K1 : MM → OR) : Nat → Int → MM → OR
  | 0, _, _ => none
  | n + 1, v4, M => (bif cmpB .ge v4 (M 3 3) then (K1  M) else (bif cmpB .ge v4 7 then (K1  M) else (bif inB v4 7 then (bif cmpB .ne (M 14 (v4).toNat) (M 1000 11) then (srch_addFrees_L8 q v1 v3 K1 n (v4 + 1) M) else (bI (gh_bit v3 v4 M) fun z_7 M_6 => (bif cmpB .ne z_7 0 then (srch_addFrees_L8 q v1 v3 K1 n (v4 + 1) M_6) else (bif inB (10 + v4) 17 then (bif cmpB .eq (iAnd (M_6 1003 ((10 + v4)).toNat) (M_6 1000 12)) 0 then (srch_addFrees_L8 q v1 v3 K1 n (v4 + 1) M_6) else (bV (srch_add q (lOr v1 (lShl 1 (40 + v4))) M_6) fun M_10 => (srch_addFrees_L8 q v1 v3 K1 n (v4 + 1) M_10))) else none)))) else none)))
def srch_addFrees (q : Nat) (v1 : Int) (M : MM) : OR :=
  (bI (srch_freedOf v1 M) fun z_3 M_2 => (srch_addFrees_L8 q v1 z_3 (fun M_13 => some (rV, M_13)) FU 0 M_2))
def srch_fewestHoursToFree_L4 (q : Nat) (v1 : Int) (K1 : Int → MM → OR) : Nat → Int → Int → MM → OR
  | 0, _, _, _ => none
  | n + 1, v2, v3, M => (bif cmpB .ge v3 (M 1000 3) then (K1 v2 M) else (bif cmpB .ge v3 6000 then (K1 v2 M) else (bif inB v3 6000 then (bI (srch_freedOf (M 1001 (v3).toNat) M) fun z_3 M_2 => (bif cmpB .ne (iAnd v1 (iXor z_3 (-1))) 0 then (srch_fewestHoursToFree_L4 q v1 K1 n v2 (v3 + 1) M_2) else (bif inB v3 6000 then (bI (srch_hoursOf (M_2 1001 (v3).toNat) M_2) fun z_7 M_6 => (bI (srch_lesser v2 z_7 M_6) fun z_11 M_10 => (srch_fewestHoursToFree_L4 q v1 K1 n z_11 (v3 + 1) M_10))) else none))) else none)))
def srch_fewestHoursToFree (q : Nat) (v1 : Int) (M : MM) : OR :=
  (srch_fewestHoursToFree_L4 q v1 (fun v2_13 M_14 => some (rI v2_13, M_14)) FU (-1) 0 M)
def srch_fewestHoursTo_L4 (q : Nat) (v1 : Int) (K1 : Int → MM → OR) : Nat → Int → Int → MM → OR
  | 0, _, _, _ => none
  | n + 1, v2, v3, M => (bif cmpB .ge v3 (M 1000 3) then (K1 v2 M) else (bif cmpB .ge v3 6000 then (K1 v2 M) else (bif inB v3 6000 then (bI (srch_placeOf (M 1001 (v3).toNat) M) fun z_3 M_2 => (bif cmpB .ne z_3 v1 then (srch_fewestHoursTo_L4 q v1 K1 n v2 (v3 + 1) M_2) else (bif inB v3 6000 then (bI (srch_hoursOf (M_2 1001 (v3).toNat) M_2) fun z_7 M_6 => (bI (srch_lesser v2 z_7 M_6) fun z_11 M_10 => (srch_fewestHoursTo_L4 q v1 K1 n z_11 (v3 + 1) M_10))) else none))) else none)))
def srch_fewestHoursTo (q : Nat) (v1 : Int) (M : MM) : OR :=
  (srch_fewestHoursTo_L4 q v1 (fun v2_13 M_14 => some (rI v2_13, M_14)) FU (-1) 0 M)
def srch_leastLossToFree_L4 (q : Nat) (v1 : Int) (K1 : Int → MM → OR) : Nat → Int → Int → MM → OR
  | 0, _, _, _ => none
  | n + 1, v2, v3, M => (bif cmpB .ge v3 (M 1000 3) then (K1 v2 M) else (bif cmpB .ge v3 6000 then (K1 v2 M) else (bif inB v3 6000 then (bI (srch_freedOf (M 1001 (v3).toNat) M) fun z_3 M_2 => (bif cmpB .ne (iAnd v1 (iXor z_3 (-1))) 0 then (srch_leastLossToFree_L4 q v1 K1 n v2 (v3 + 1) M_2) else (bif inB v3 6000 then (bI (land_worthOf 3 (iAnd (iAnd (lUshr (M_2 1001 (v3).toNat) 10) 1023) (iXor (M_2 23 4) (-1))) M_2) fun z_7 M_6 => (bI (srch_lesser v2 z_7 M_6) fun z_11 M_10 => (srch_leastLossToFree_L4 q v1 K1 n z_11 (v3 + 1) M_10))) else none))) else none)))
def srch_leastLossToFree (q : Nat) (v1 : Int) (M : MM) : OR :=
  (srch_leastLossToFree_L4 q v1 (fun v2_13 M_14 => some (rI v2_13, M_14)) FU (-1) 0 M)
def srch_everPassed_L4 (q : Nat) (K1 : Int → MM → OR) : Nat → Int → Int → MM → OR
  | 0, _, _, _ => none
  | n + 1, v1, v2, M => (bif cmpB .ge v2 (M 1000 3) then (K1 v1 M) else (bif cmpB .ge v2 6000 then (K1 v1 M) else (bif inB v2 6000 then (bI (srch_passedOf (M 1001 (v2).toNat) M) fun z_3 M_2 => (srch_everPassed_L4 q K1 n (iOr v1 z_3) (v2 + 1) M_2)) else none)))
def srch_everPassed (q : Nat) (M : MM) : OR :=
  (srch_everPassed_L4 q (fun v1_5 M_6 => some (rI v1_5, M_6)) FU 0 0 M)
def stps_judge_L71  (K1 : MM → OR) : Nat → Int → MM → OR
  | 0, _, _ => none
  | n + 1, v5, M => (bif cmpB .ge v5 (M 17 0) then (K1  M) else (bif cmpB .ge v5 12 then (K1  M) else (bI (law_holds 17 v5 M) fun z_22 M_21 => (bif cmpB .eq z_22 0 then (stps_judge_L71  K1 n (v5 + 1) M_21) else (bif inB v5 12 then (bif cmpB .ne (M_21 18 (v5).toNat) (-1) then (bif zo (iOr (M_21 157 0) 0) then (sM (mU M_21 157 0 (iOr (M_21 157 0) 0)) fun M_24 => (bif inB v5 12 then (sM (mU M_24 157 1 ((M_24 157 1) + (imax (M_24 18 (v5).toNat) 0))) fun M_26 => (stps_judge_L71  K1 n (v5 + 1) M_26)) else none)) else none) else (bif zo (iOr (M_21 157 0) 1) then (sM (mU M_21 157 0 (iOr (M_21 157 0) 1)) fun M_29 => (bif inB v5 12 then (sM (mU M_29 157 1 ((M_29 157 1) + (imax (M_29 18 (v5).toNat) 0))) fun M_31 => (stps_judge_L71  K1 n (v5 + 1) M_31)) else none)) else none)) else none)))))
def stps_judge (v1 : Int) (v2 : Int) (v3 : Int) (v4 : Int) (M : MM) : OR :=
  (sM (mU M 157 0 0) fun M_1 => (bif inB v1 16 then (sM (mU M_1 157 1 (M_1 12 (v1).toNat)) fun M_3 => (bif cmpB .gt (M_3 17 0) 0 then (bI (land_otherEnd 3 v1 v2 M_3) fun z_7 M_6 => (bV (law_tellRoad 17 v1 v2 z_7 v4 M_6) fun M_9 => (bI (jdk_bitCount v3 M_9) fun z_13 M_12 => (bI (land_worthOf 3 v3 M_12) fun z_16 M_15 => (bV (law_tellCarried 17 z_13 z_16 M_15) fun M_18 => (stps_judge_L71  (fun M_34 => some (rV, M_34)) FU 0 M_18)))))) else some (rV, M_3))) else none))
def stps_arrival_J37   (v1 v2 v5 v6 v7 : Int) (M : MM) : OR :=
  (bV (stps_judge v1 v2 v5 v6 M) fun M_5 => (bif cmpB .ne (M_5 157 0) 0 then some (rI (-1), M_5) else (bI (land_eatsAt 3 v7 (v6 + (M_5 157 1)) M_5) fun z_9 M_8 => (bif cmpB .eq z_9 0 then some (rI (v6 + (M_8 157 1)), M_8) else some (rI (-1), M_8)))))
def stps_arrival (v1 : Int) (v2 : Int) (v3 : Int) (v4 : Int) (v5 : Int) (v6 : Int) (M : MM) : OR :=
  (bI (land_otherEnd 3 v1 v2 M) fun z_3 M_2 => (bif cmpB .eq z_3 (-1) then some (rI (-1), M_2) else (bif cmpB .eq v1 v3 then (stps_arrival_J37   v1 v2 v5 v6 z_3 M_2) else (bI (land_isHeldBy 3 v2 v4 M_2) fun z_12 M_11 => (bif cmpB .eq z_12 0 then (stps_arrival_J37   v1 v2 v5 v6 z_3 M_11) else some (rI (-1), M_11))))))
def tale_readPlace  (M : MM) : OR :=
  (bif cmpB .lt (M 29 0) 10 then (sM (mU M 29 0 ((M 29 0) + 1)) fun M_1 => some (rV, M_1)) else (bV (tape_failAt (M 1 3) M) fun M_4 => some (rV, M_4)))
def tape_isAtEnd  (M : MM) : OR :=
  (bV (tape_skipBlanks  M) fun M_2 => (bif cmpB .lt (M_2 1 4) (M_2 1 1) then some (rI 0, M_2) else some (rI 1, M_2)))
def tape_fail  (M : MM) : OR :=
  (bV (tape_skipBlanks  M) fun M_2 => (bV (tape_failAt (M_2 1 4) M_2) fun M_5 => some (rV, M_5)))
def tape_tookWord_L16 (t1 : Nat) (K1 : Int → MM → OR) : Nat → Int → MM → OR
  | 0, _, _ => none
  | n + 1, v2, M => (bif cmpB .ge ((M 1 4) + v2) (M 1 1) then (K1 v2 M) else (bif inB ((M 1 4) + v2) 400 then (bI (tape_isWithin (M 2 (((M 1 4) + v2)).toNat) 97 122 M) fun z_6 M_5 => (bif cmpB .eq z_6 0 then (K1 v2 M_5) else (tape_tookWord_L16 t1 K1 n (v2 + 1) M_5))) else none))
def tape_tookWord_L68 (t1 : Nat) (v2 : Int) (K1 : MM → OR) (K2 : MM → OR) : Nat → Int → MM → OR
  | 0, _, _ => none
  | n + 1, v3, M => (bif cmpB .ge v3 v2 then (K1  M) else (bif inB ((M 1 4) + v3) 400 then (bI (jdk_charAt t1 v3 M) fun z_15 M_14 => (bif cmpB .eq (M 2 (((M 1 4) + v3)).toNat) z_15 then (tape_tookWord_L68 t1 v2 K1 K2 n (v3 + 1) M_14) else (K2  M_14))) else none))
def tape_tookWord_J56 (t1 : Nat)  (v2 : Int) (M : MM) : OR :=
  (bI (jdk_length t1 M) fun z_12 M_11 => (bif cmpB .eq v2 z_12 then (tape_tookWord_L68 t1 v2 (fun M_16 => (sM (mU M_16 1 3 (M_16 1 4)) fun M_19 => (sM (mU M_19 1 4 ((M_19 1 4) + v2)) fun M_21 => some (rI 1, M_21)))) (fun M_23 => some (rI 0, M_23)) FU 0 M_11) else some (rI 0, M_11)))
def tape_tookWord (t1 : Nat) (M : MM) : OR :=
  (bif cmpB .eq (M 1 2) (-1) then (bV (tape_skipBlanks  M) fun M_2 => (tape_tookWord_L16 t1 (fun v2_7 M_8 => (tape_tookWord_J56 t1  v2_7 M_8)) FU 0 M_2)) else some (rI 0, M))
def tape_tookMark (v1 : Int) (M : MM) : OR :=
  (bV (tape_skipBlanks  M) fun M_2 => (bif cmpB .ne (M_2 1 2) (-1) then some (rI 0, M_2) else (bif cmpB .ge (M_2 1 4) (M_2 1 1) then some (rI 0, M_2) else (bif inB (M_2 1 4) 400 then (bif cmpB .eq (M_2 2 ((M_2 1 4)).toNat) v1 then (sM (mU M_2 1 3 (M_2 1 4)) fun M_4 => (sM (mU M_4 1 4 ((M_4 1 4) + 1)) fun M_6 => some (rI 1, M_6))) else some (rI 0, M_2)) else none))))
def tape_needWord (t1 : Nat) (M : MM) : OR :=
  (bI (tape_tookWord t1 M) fun z_3 M_2 => (bif cmpB .ne z_3 0 then some (rV, M_2) else (bV (tape_fail  M_2) fun M_5 => some (rV, M_5))))
def tape_needNumber_L9  (v1 v2 : Int) (K1 : Int → Int → MM → OR) : Nat → Int → Int → MM → OR
  | 0, _, _, _ => none
  | n + 1, v3, v4, M => (bif cmpB .ge ((M 1 4) + v3) (M 1 1) then (K1 v3 v4 M) else (bif inB ((M 1 4) + v3) 400 then (bI (tape_isWithin (M 2 (((M 1 4) + v3)).toNat) 48 57 M) fun z_6 M_5 => (bif cmpB .eq z_6 0 then (K1 v3 v4 M_5) else (bif cmpB .ge v3 3 then (tape_needNumber_L9 v1 v2 K1 n (v3 + 1) v4 M_5) else (bif inB ((M_5 1 4) + v3) 400 then (tape_needNumber_L9 v1 v2 K1 n (v3 + 1) (((10 * v4) + (M_5 2 (((M_5 1 4) + v3)).toNat)) - 48) M_5) else none)))) else none))
def tape_needNumber_J76   (v1 v2 v3 v4 : Int) (M : MM) : OR :=
  (bif cmpB .ne (M 1 2) (-1) then (bV (tape_failAt (M 1 4) M) fun M_11 => some (rI v1, M_11)) else (bif cmpB .eq v3 0 then (bV (tape_failAt (M 1 4) M) fun M_14 => some (rI v1, M_14)) else (bif cmpB .gt v3 3 then (bV (tape_failAt (M 1 4) M) fun M_17 => some (rI v1, M_17)) else (bif cmpB .lt v4 v1 then (bV (tape_failAt (M 1 4) M) fun M_20 => some (rI v1, M_20)) else (bif cmpB .le v4 v2 then (sM (mU M 1 3 (M 1 4)) fun M_22 => (sM (mU M_22 1 4 ((M_22 1 4) + v3)) fun M_24 => some (rI v4, M_24))) else (bV (tape_failAt (M 1 4) M) fun M_27 => some (rI v1, M_27)))))))
def tape_needNumber (v1 : Int) (v2 : Int) (M : MM) : OR :=
  (bV (tape_skipBlanks  M) fun M_2 => (tape_needNumber_L9 v1 v2 (fun v3_7 v4_8 M_9 => (tape_needNumber_J76   v1 v2 v3_7 v4_8 M_9)) FU 0 0 M_2))
def tape_nextIsDigit  (M : MM) : OR :=
  (bV (tape_skipBlanks  M) fun M_2 => (bif cmpB .ne (M_2 1 2) (-1) then some (rI 0, M_2) else (bif cmpB .ge (M_2 1 4) (M_2 1 1) then some (rI 0, M_2) else (bif inB (M_2 1 4) 400 then (bI (tape_isWithin (M_2 2 ((M_2 1 4)).toNat) 48 57 M_2) fun z_6 M_5 => (bif cmpB .eq z_6 0 then some (rI 0, M_5) else some (rI 1, M_5))) else none))))
def ways_meetingPlace_L27  (K1 : Int → MM → OR) : Nat → Int → Int → Int → MM → OR
  | 0, _, _, _, _ => none
  | n + 1, v3, v4, v5, M => (bif cmpB .ge v5 (M 3 0) then (K1 v3 M) else (bif cmpB .ge v5 10 then (K1 v3 M) else (bI (ways_hoursToBothEnds v5 M) fun z_9 M_8 => (bif cmpB .ge z_9 v4 then (ways_meetingPlace_L27  K1 n v3 v4 (v5 + 1) M_8) else (bI (ways_hoursToBothEnds v5 M_8) fun z_13 M_12 => (ways_meetingPlace_L27  K1 n v5 z_13 (v5 + 1) M_12))))))
def ways_meetingPlace (v1 : Int) (v2 : Int) (M : MM) : OR :=
  (bV (ways_measure v1 159 M) fun M_2 => (bV (ways_measure v2 160 M_2) fun M_5 => (ways_meetingPlace_L27  (fun v3_14 M_15 => some (rI v3_14, M_15)) FU (-1) 1000000 0 M_5)))
def ways_placeFoundFirst_L31  (v1 : Int) (K1 : Int → MM → OR) : Nat → Int → Int → MM → OR
  | 0, _, _, _ => none
  | n + 1, v2, v3, M => (bif cmpB .ge v3 (M 3 3) then (K1 v2 M) else (bif cmpB .ge v3 7 then (K1 v2 M) else (bif cmpB .eq v3 v1 then (ways_placeFoundFirst_L31 v1 K1 n v2 (v3 + 1) M) else (bif inB v3 7 then (bV (ways_measure (M 14 (v3).toNat) 160 M) fun M_5 => (bI (ways_placesNearerToOne  M_5) fun z_9 M_8 => (ways_placeFoundFirst_L31 v1 K1 n (iAnd v2 z_9) (v3 + 1) M_8))) else none))))
def ways_placeFoundFirst_L88  (v2 : Int) (K1 : Int → MM → OR) : Nat → Int → Int → MM → OR
  | 0, _, _, _ => none
  | n + 1, v3, v4, M => (bif cmpB .ge v4 (M 3 0) then (K1 v3 M) else (bif cmpB .ge v4 10 then (K1 v3 M) else (bI (gh_bit v2 v4 M) fun z_17 M_16 => (bif cmpB .ne z_17 1 then (ways_placeFoundFirst_L88 v2 K1 n v3 (v4 + 1) M_16) else (bif cmpB .eq v3 (-1) then (ways_placeFoundFirst_L88 v2 K1 n v4 (v4 + 1) M_16) else (bif inB v4 10 then (bif inB v3 10 then (bif cmpB .ge (M_16 159 (v4).toNat) (M_16 159 (v3).toNat) then (ways_placeFoundFirst_L88 v2 K1 n v3 (v4 + 1) M_16) else (ways_placeFoundFirst_L88 v2 K1 n v4 (v4 + 1) M_16)) else none) else none))))))
def ways_placeFoundFirst_J83   (v2 : Int) (M : MM) : OR :=
  (ways_placeFoundFirst_L88 v2 (fun v3_18 M_19 => some (rI v3_18, M_19)) FU (-1) 0 M)
def ways_placeFoundFirst (v1 : Int) (M : MM) : OR :=
  (bif inB v1 7 then (bV (ways_measure (M 14 (v1).toNat) 159 M) fun M_2 => (ways_placeFoundFirst_L31 v1 (fun v2_10 M_11 => (ways_placeFoundFirst_J83   v2_10 M_11)) FU ((iShl 1 (M_2 3 0)) - 1) 0 M_2)) else none)
def gh_giftStillHad (v1 : Int) (M : MM) : OR :=
  (bI (land_hasKeeper 3 v1 M) fun z_3 M_2 => (bif cmpB .eq z_3 0 then (bif cmpB .eq (-1) (-1) then some (rI (-1), M_2) else (bI (gh_bit (M_2 23 5) (-1) M_2) fun z_6 M_5 => (bif cmpB .ne z_6 1 then some (rI (-1), M_5) else some (rI (-1), M_5)))) else (bif inB v1 10 then (bif cmpB .eq (M_2 8 (v1).toNat) (-1) then some (rI (-1), M_2) else (bI (gh_bit (M_2 23 5) (M_2 8 (v1).toNat) M_2) fun z_9 M_8 => (bif cmpB .ne z_9 1 then some (rI (-1), M_8) else some (rI (M_2 8 (v1).toNat), M_8)))) else none)))
def gh_thing (v1 : Int) (v2 : Int) (M : MM) : OR :=
  (bV (gh_checkThing v1 M) fun M_2 => (bif cmpB .eq v2 0 then (bif inB v1 10 then some (rI (M_2 9 (v1).toNat), M_2) else none) else (bif cmpB .eq v2 1 then (bif inB v1 10 then some (rI (M_2 10 (v1).toNat), M_2) else none) else (bif cmpB .eq v2 2 then (bI (jny_lot 23 v1 M_2) fun z_9 M_8 => some (rI z_9, M_8)) else (bif cmpB .eq v2 3 then (bI (jny_lot 23 v1 M_2) fun z_13 M_12 => (bif cmpB .gt z_13 1 then some (rI (-1), M_12) else (bif inB v1 10 then some (rI (M_12 24 (v1).toNat), M_12) else none))) else thx 16 M_2)))))
def gh_road (v1 : Int) (v2 : Int) (M : MM) : OR :=
  (bV (gh_checkRoad v1 M) fun M_2 => (bif cmpB .eq v2 0 then (bif inB (2 * v1) 32 then some (rI (M_2 11 ((2 * v1)).toNat), M_2) else none) else (bif cmpB .eq v2 1 then (bif inB ((2 * v1) + 1) 32 then some (rI (M_2 11 (((2 * v1) + 1)).toNat), M_2) else none) else (bif cmpB .eq v2 2 then (bif inB v1 16 then some (rI (M_2 12 (v1).toNat), M_2) else none) else (bif cmpB .eq v2 3 then (bif inB v1 16 then some (rI (M_2 13 (v1).toNat), M_2) else none) else thx 16 M_2)))))
def gh_brother (v1 : Int) (v2 : Int) (M : MM) : OR :=
  (bV (gh_checkBrother v1 M) fun M_2 => (bif cmpB .eq v2 0 then (bif inB v1 7 then some (rI (M_2 14 (v1).toNat), M_2) else none) else (bif cmpB .eq v2 1 then (bif inB (10 + v1) 17 then some (rI (M_2 4 ((10 + v1)).toNat), M_2) else none) else (bif cmpB .eq v2 2 then (bif inB (10 + v1) 17 then some (rI (M_2 5 ((10 + v1)).toNat), M_2) else none) else (bif cmpB .eq v2 3 then (bif inB v1 7 then some (rI (M_2 15 (v1).toNat), M_2) else none) else (bif cmpB .eq v2 4 then (bif inB v1 7 then some (rI (M_2 16 (v1).toNat), M_2) else none) else (bif cmpB .eq v2 5 then (bI (gh_bit (M_2 23 7) v1 M_2) fun z_12 M_11 => (bif cmpB .ne z_12 1 then some (rI (-1), M_11) else (bif inB v1 7 then some (rI (M_11 25 (v1).toNat), M_11) else none))) else (bif cmpB .eq v2 6 then (bI (gh_bit (M_2 23 7) v1 M_2) fun z_16 M_15 => (bif cmpB .ne z_16 1 then some (rI (-1), M_15) else (bif inB v1 7 then (bif inB v1 7 then some (rI ((M_15 25 (v1).toNat) + (M_15 15 (v1).toNat)), M_15) else none) else none))) else thx 16 M_2))))))))
def gh_girl (v1 : Int) (M : MM) : OR :=
  (bif cmpB .lt v1 0 then thx 16 M else (bif cmpB .le v1 4 then (bV (gh_checkAnyPlace  M) fun M_2 => (bif cmpB .eq v1 0 then some (rI (M_2 23 0), M_2) else (bif cmpB .eq v1 1 then some (rI (M_2 23 1), M_2) else (bif cmpB .eq v1 2 then some (rI (M_2 23 2), M_2) else (bif cmpB .eq v1 3 then some (rI (M_2 23 3), M_2) else (bI (land_worthOf 3 (M_2 23 3) M_2) fun z_10 M_9 => some (rI z_10, M_9))))))) else thx 16 M))
def gh_fits (v1 : Int) (v2 : Int) (M : MM) : OR :=
  (bV (gh_checkThing v1 M) fun M_2 => (bV (gh_checkPlace v2 M_2) fun M_5 => (bI (land_hasKeeper 3 v2 M_5) fun z_9 M_8 => (bif cmpB .ne z_9 0 then (bif inB v1 10 then (bI (land_opens 3 (M_8 9 (v1).toNat) v2 M_8) fun z_12 M_11 => (bif zo z_12 then some (rI z_12, M_11) else none)) else none) else thx 14 M_8))))
def gh_count (v1 : Int) (M : MM) : OR :=
  (bif cmpB .eq v1 0 then some (rI (M 3 0), M) else (bif cmpB .eq v1 1 then some (rI (M 3 1), M) else (bif cmpB .eq v1 2 then some (rI (M 3 2), M) else (bif cmpB .eq v1 3 then some (rI (M 3 3), M) else (bif cmpB .eq v1 4 then (bI (jdk_bitCount (M 3 5) M) fun z_8 M_7 => some (rI z_8, M_7)) else (bif cmpB .eq v1 5 then some (rI (M 3 4), M) else (bif cmpB .eq v1 6 then some (rI (M 17 0), M) else (bif cmpB .eq v1 7 then some (rI (M 23 1), M) else (bif cmpB .eq v1 8 then some (rI (M 23 6), M) else (bif cmpB .eq v1 9 then some (rI (M 23 7), M) else (bif cmpB .eq v1 10 then some (rI (M 23 4), M) else (bif cmpB .eq v1 11 then (bI (land_worthOf 3 (M 23 4) M) fun z_18 M_17 => some (rI z_18, M_17)) else (bif cmpB .eq v1 12 then some (rI (M 83 0), M) else some (rI (-1), M))))))))))))))
def gh_delay_L28  (v1 : Int) (K1 : Int → MM → OR) : Nat → Int → MM → OR
  | 0, _, _ => none
  | n + 1, v2, M => (bif cmpB .ge v2 v1 then (K1 v2 M) else (bI (land_eatsAt 3 (M 23 0) (((M 23 1) + v2) + 1) M) fun z_6 M_5 => (bif cmpB .ne z_6 0 then (K1 v2 M_5) else (gh_delay_L28 v1 K1 n (v2 + 1) M_5))))
def gh_delay (v1 : Int) (M : MM) : OR :=
  (bif cmpB .lt v1 1 then thx 13 M else (bif cmpB .le v1 48 then (bV (gh_checkAnyPlace  M) fun M_2 => (gh_delay_L28 v1 (fun v2_7 M_8 => (bif cmpB .ne v2_7 0 then (bV (gh_rememberAct  M_8) fun M_11 => (sM (mU M_11 23 1 ((M_11 23 1) + v2_7)) fun M_13 => some (rI v2_7, M_13))) else thx 14 M_8)) FU 0 M_2)) else thx 13 M))
def gh_lay (v1 : Int) (M : MM) : OR :=
  (bV (gh_checkThing v1 M) fun M_2 => (bI (gh_bit (M_2 23 3) v1 M_2) fun z_6 M_5 => (bif cmpB .ne z_6 0 then (bV (gh_rememberAct  M_5) fun M_8 => (sM (mU M_8 23 3 (iAnd (M_8 23 3) (iXor (iShl 1 v1) (-1)))) fun M_10 => (bif inB v1 10 then (sM (mU M_10 24 (v1).toNat (M_10 23 0)) fun M_12 => (bI (jdk_bitCount (M_12 23 3) M_12) fun z_16 M_15 => some (rI z_16, M_15))) else none))) else thx 14 M_5)))
def gh_free (v1 : Int) (M : MM) : OR :=
  (bV (gh_checkBrother v1 M) fun M_2 => (bif inB v1 7 then (bif cmpB .ne (M_2 14 (v1).toNat) (M_2 23 0) then thx 14 M_2 else (bI (gh_bit (M_2 23 7) v1 M_2) fun z_6 M_5 => (bif cmpB .eq z_6 1 then thx 14 M_5 else (bI (land_openers 3 (10 + v1) M_5) fun z_9 M_8 => (bif cmpB .ne (iAnd z_9 (M_8 23 3)) 0 then (bV (gh_rememberAct  M_8) fun M_11 => (sM (mU M_11 23 7 (iOr (M_11 23 7) (iShl 1 v1))) fun M_13 => (bif inB v1 7 then (sM (mU M_13 25 (v1).toNat (M_13 23 1)) fun M_15 => (bI (jdk_bitCount (M_15 23 7) M_15) fun z_19 M_18 => some (rI z_19, M_18))) else none))) else thx 14 M_8))))) else none))
def gh_back  (M : MM) : OR :=
  (bif cmpB .ne (M 0 10) 0 then (bV (land_copyFrom 3 55 M) fun M_2 => (bV (law_copyFrom 17 69 M_2) fun M_5 => (bV (jny_copyFrom 23 75 M_5) fun M_8 => (bV (gh_forgetActs  M_8) fun M_11 => some (rI 1, M_11))))) else some (rI 0, M))
def gh_isShut (v1 : Int) (M : MM) : OR :=
  (bif cmpB .ge v1 10 then (bif cmpB .ge (v1 - 10) (M 3 3) then some (rI 0, M) else (bI (gh_bit (M 23 7) (v1 - 10) M) fun z_3 M_2 => (bif cmpB .ne z_3 0 then some (rI 0, M_2) else some (rI 1, M_2)))) else (bI (land_isHeldBy 3 v1 (M 23 6) M) fun z_6 M_5 => (bif zo z_6 then some (rI z_6, M_5) else none)))
def gh_far (v1 : Int) (v2 : Int) (M : MM) : OR :=
  (bV (gh_checkPlace v1 M) fun M_2 => (bV (gh_checkPlace v2 M_2) fun M_5 => (bI (ways_fewestHours v1 v2 M_5) fun z_9 M_8 => some (rI z_9, M_8))))
def gh_turnBack (v1 : Int) (M : MM) : OR :=
  (bif cmpB .lt v1 0 then thx 13 M else (bif cmpB .le v1 100000 then (bV (gh_checkAnyPlace  M) fun M_2 => (bI (ways_fewestHours (M_2 23 0) 0 M_2) fun z_6 M_5 => (bif cmpB .eq z_6 (-1) then some (rI (-1), M_5) else (bif cmpB .ge (v1 - z_6) (M_5 23 1) then some (rI (v1 - z_6), M_5) else some (rI (-1), M_5))))) else thx 13 M))
def gh_meet (v1 : Int) (v2 : Int) (v3 : Int) (M : MM) : OR :=
  (bV (gh_checkPlace v1 M) fun M_2 => (bV (gh_checkPlace v2 M_2) fun M_5 => (bI (ways_meetingPlace v1 v2 M_5) fun z_9 M_8 => (bif cmpB .ne v3 0 then some (rI z_9, M_8) else (bif cmpB .ne z_9 (-1) then (bI (ways_hoursToBothEnds z_9 M_8) fun z_12 M_11 => some (rI z_12, M_11)) else some (rI z_9, M_8))))))
def gh_surest (v1 : Int) (v2 : Int) (M : MM) : OR :=
  (bV (gh_checkPlace v1 M) fun M_2 => (bV (gh_checkPlace v2 M_2) fun M_5 => (bI (ways_greatestChance v1 v2 M_5) fun z_9 M_8 => some (rI z_9, M_8))))
def gh_sign (v1 : Int) (M : MM) : OR :=
  (bV (gh_checkBrother v1 M) fun M_2 => (bI (ways_placeFoundFirst v1 M_2) fun z_6 M_5 => some (rI z_6, M_5)))
def gh_locks (v1 : Int) (M : MM) : OR :=
  (bI (tape_useUpPairs 16 2 M) fun z_3 M_2 => (bif cmpB .ne z_3 (-1) then (bI (ridd_locksAnswer z_3 v1 M_2) fun z_6 M_5 => some (rI z_6, M_5)) else thx 13 M_2))
def gh_arrivalNow (v1 : Int) (M : MM) : OR :=
  (bI (stps_arrival v1 (M 23 0) (M 23 2) (M 23 6) (M 23 3) (M 23 1) M) fun z_3 M_2 => some (rI z_3, M_2))
def gh_hasRoom (v0 : Int) (M : MM) : OR :=
  (bI (jdk_bitCount v0 M) fun z_3 M_2 => (bif cmpB .ge z_3 4 then some (rI 0, M_2) else some (rI 1, M_2)))
def mo_readAtom (R : MM → OR)  (M : MM) : OR :=
  (bI (mo_isSign 40 M) fun z_3 M_2 => (bif cmpB .eq z_3 0 then (bI (mo_passes 71 M_2) fun z_6 M_5 => (bif cmpB .eq z_6 0 then (bI (mo_passes 72 M_5) fun z_9 M_8 => (bif cmpB .eq z_9 0 then (bI (mo_readSum  M_8) fun z_12 M_11 => (bif cmpB .ne z_12 0 then (bI (mo_isSign 60 M_11) fun z_15 M_14 => (bif cmpB .ne z_15 0 then (bI (mo_readSum  M_14) fun z_18 M_17 => (bif cmpB .ne z_18 0 then (bif cmpB .eq z_15 0 then (bV (mo_emits 11 0 M_17) fun M_20 => some (rI 1, M_20)) else (bV (mo_emits 10 0 M_17) fun M_23 => some (rI 1, M_23))) else some (rI 0, M_17))) else (bI (mo_isSign 62 M_14) fun z_27 M_26 => (bif cmpB .eq z_27 0 then some (rI 0, M_26) else (bI (mo_readSum  M_26) fun z_30 M_29 => (bif cmpB .ne z_30 0 then (bif cmpB .eq z_15 0 then (bV (mo_emits 11 0 M_29) fun M_32 => some (rI 1, M_32)) else (bV (mo_emits 10 0 M_29) fun M_35 => some (rI 1, M_35))) else some (rI 0, M_29))))))) else some (rI 0, M_11))) else (bV (mo_emits 7 0 M_8) fun M_38 => some (rI 1, M_38)))) else (bif cmpB .ne (M_5 165 12) 6 then (sM (mU M_5 165 12 ((M_5 165 12) + 1)) fun M_40 => (bI (R  M_40) fun z_44 M_43 => (bif cmpB .ne z_44 0 then (sM (mU M_43 165 12 ((M_43 165 12) - 1)) fun M_45 => (bV (mo_emits 12 0 M_45) fun M_48 => some (rI 1, M_48))) else some (rI 0, M_43)))) else some (rI 0, M_5)))) else (bif cmpB .ne (M_2 165 12) 6 then (sM (mU M_2 165 12 ((M_2 165 12) + 1)) fun M_50 => (bI (mo_readCond R M_50) fun z_54 M_53 => (bif cmpB .ne z_54 0 then (sM (mU M_53 165 12 ((M_53 165 12) - 1)) fun M_55 => (bI (mo_isSign 41 M_55) fun z_59 M_58 => (bif zo z_59 then some (rI z_59, M_58) else none))) else some (rI 0, M_53)))) else some (rI 0, M_2))))
def mo_readAtom_F : Nat → MM → OR
  | 0, _ => none
  | n + 1, M => mo_readAtom (mo_readAtom_F n)  M
def mo_readLawLine_J67   (v2 s0 s1 : Int) (M : MM) : OR :=
  (bif inB s1 1964 then (sM (mU M 166 (s1).toNat s0) fun M_6 => (bif inB (v2 + 1) 1964 then (bif cmpB .ge (M_6 166 ((v2 + 1)).toNat) 0 then (bif inB (v2 + 2) 1964 then (sM (mU M_6 166 ((v2 + 2)).toNat (M_6 165 15)) fun M_8 => (sM (mU M_8 165 12 0) fun M_10 => (bI (mo_passes 70 M_10) fun z_14 M_13 => (bif cmpB .eq z_14 0 then (bif inB (v2 + 3) 1964 then (sM (mU M_13 166 ((v2 + 3)).toNat (M_13 165 15)) fun M_15 => some (rI 1, M_15)) else none) else (bI (mo_readCond (mo_readAtom_F 12) M_13) fun z_19 M_18 => (bif cmpB .ne z_19 0 then (bif inB (v2 + 3) 1964 then (sM (mU M_18 166 ((v2 + 3)).toNat (M_18 165 15)) fun M_20 => some (rI 1, M_20)) else none) else some (rI 0, M_18))))))) else none) else some (rI 0, M_6)) else none)) else none)
def mo_readLawLine_J44   (v2 v3 s0 s1 : Int) (M : MM) : OR :=
  (bif inB s1 1964 then (sM (mU M 166 (s1).toNat s0) fun M_4 => (bif cmpB .eq v3 0 then (mo_readLawLine_J67   v2 1 (v2 + 1) M_4) else (bI (mo_number 0 9 M_4) fun z_24 M_23 => (mo_readLawLine_J67   v2 z_24 (v2 + 1) M_23)))) else none)
def mo_readLawLine_J30   (v2 v3 : Int) (M : MM) : OR :=
  (bif cmpB .eq v3 0 then (mo_readLawLine_J44   v2 v3 0 v2 M) else (mo_readLawLine_J44   v2 v3 1 v2 M))
def mo_readLawLine (v1 : Int) (M : MM) : OR :=
  (bI (mo_isWord 68 M) fun z_3 M_2 => (bif cmpB .ne z_3 0 then (mo_readLawLine_J30   (1116 + (4 * v1)) z_3 M_2) else (bI (mo_isWord 69 M_2) fun z_27 M_26 => (bif cmpB .ne z_27 0 then (mo_readLawLine_J30   (1116 + (4 * v1)) z_3 M_26) else some (rI 0, M_26)))))
def mo_readLine (v1 : Int) (v2 : Int) (M : MM) : OR :=
  (bV (mo_letters  M) fun M_2 => (bif cmpB .eq v1 0 then (bif cmpB .ge v2 12 then some (rI 0, M_2) else (bif cmpB .eq v1 0 then (bI (mo_readLawLine v2 M_2) fun z_6 M_5 => (bif cmpB .eq z_6 0 then some (rI 0, M_5) else some (rI 1, M_5))) else (bI (mo_readTaleLine  M_2) fun z_9 M_8 => (bif cmpB .eq z_9 0 then some (rI 0, M_8) else some (rI 1, M_8))))) else (bif cmpB .ge v2 14 then some (rI 0, M_2) else (bif cmpB .eq v1 0 then (bI (mo_readLawLine v2 M_2) fun z_12 M_11 => (bif cmpB .eq z_12 0 then some (rI 0, M_11) else some (rI 1, M_11))) else (bI (mo_readTaleLine  M_2) fun z_15 M_14 => (bif cmpB .eq z_15 0 then some (rI 0, M_14) else some (rI 1, M_14)))))))
def mo_readAll_L28  (v1 : Int) (K1 : MM → OR) (K2 : Int → MM → OR) (K3 : MM → OR) : Nat → Int → MM → OR
  | 0, _, _ => none
  | n + 1, v2, M => (bI (mo_readLine v1 v2 M) fun z_11 M_10 => (bif cmpB .ne z_11 0 then (bV (mo_blanks  M_10) fun M_13 => (bif cmpB .ne (M_13 165 9) (M_13 165 10) then (bI (mo_isAt 59 59 M_13) fun z_17 M_16 => (bif cmpB .ne z_17 0 then (sM (mU M_16 165 9 ((M_16 165 9) + 1)) fun M_18 => (mo_readAll_L28 v1 K1 K2 K3 n (v2 + 1) M_18)) else (K3  M_16))) else (K2 v2 M_13))) else (K1  M_10)))
def mo_readAll (v1 : Int) (M : MM) : OR :=
  (bV (mo_uses  M) fun M_2 => (sM (mU M_2 165 15 0) fun M_4 => (bV (mo_blanks  M_4) fun M_7 => (bif cmpB .ne (M_7 165 9) (M_7 165 10) then (mo_readAll_L28 v1 (fun M_20 => some (rI (-1), M_20)) (fun v2_24 M_25 => some (rI (v2_24 + 1), M_25)) (fun M_28 => some (rI (-1), M_28)) FU 0 M_7) else some (rI 0, M_7)))))
def mo_tale_L2  (K1 : MM → OR) : Nat → Int → MM → OR
  | 0, _, _ => none
  | n + 1, v1, M => (bif cmpB .ge v1 1115 then (K1  M) else (bif inB v1 1964 then (bif inB v1 1115 then (sM (mU M 168 (v1).toNat (M 166 (v1).toNat)) fun M_1 => (mo_tale_L2  K1 n (v1 + 1) M_1)) else none) else none))
def mo_tale_L92  (K1 : MM → OR) : Nat → Int → MM → OR
  | 0, _, _ => none
  | n + 1, v2, M => (bif cmpB .ge v2 1115 then (K1  M) else (bif inB v2 1115 then (bif inB v2 1964 then (sM (mU M 166 (v2).toNat (M 168 (v2).toNat)) fun M_15 => (mo_tale_L92  K1 n (v2 + 1) M_15)) else none) else none))
def mo_tale_J90   (M : MM) : OR :=
  (mo_tale_L92  (fun M_18 => some (rI 0, M_18)) FU 0 M)
def mo_tale_J83   (s0 : Int) (M : MM) : OR :=
  (bI (mo_throwsIf s0 2 M) fun z_24 M_23 => (bif cmpB .eq z_24 0 then (bif inB 4 1964 then (bif inB 4 1964 then (sM (mU M_23 166 4 ((M_23 166 4) + 1)) fun M_25 => (sM (mU M_25 165 6 0) fun M_27 => (bif inB 4 1964 then some (rI (M_27 166 4), M_27) else none))) else none) else none) else (mo_tale_J90    M_23)))
def mo_tale_J59   (s0 : Int) (M : MM) : OR :=
  (bI (mo_throwsIf s0 1 M) fun z_13 M_12 => (bif cmpB .ne z_13 0 then (mo_tale_J90    M_12) else (bif inB 4 1964 then (bif cmpB .ne (M_12 166 4) 12 then (mo_tale_J83   0 M_12) else (mo_tale_J83   1 M_12)) else none)))
def mo_tale_J46   (v1 s0 : Int) (M : MM) : OR :=
  (sM (mU M 165 13 s0) fun M_9 => (bif cmpB .ge v1 0 then (mo_tale_J59   0 M_9) else (mo_tale_J59   1 M_9)))
def mo_tale  (M : MM) : OR :=
  (mo_tale_L2  (fun M_3 => (bI (mo_readAll 1 M_3) fun z_8 M_7 => (bif cmpB .ge z_8 0 then (mo_tale_J46   z_8 (-1) M_7) else (mo_tale_J46   z_8 (M_7 165 11) M_7)))) FU 0 M)
def mo_law_L52  (v1 : Int) (K1 : MM → OR) : Nat → Int → MM → OR
  | 0, _, _ => none
  | n + 1, v2, M => (bif cmpB .ge v2 849 then (K1  M) else (bif inB (1115 + v2) 1964 then (bif inB (266 + v2) 1964 then (sM (mU M 166 ((266 + v2)).toNat (M 166 ((1115 + v2)).toNat)) fun M_11 => (mo_law_L52 v1 K1 n (v2 + 1) M_11)) else none) else none))
def mo_law_J32   (v1 s0 : Int) (M : MM) : OR :=
  (bI (mo_throwsIf s0 1 M) fun z_8 M_7 => (bif cmpB .eq z_8 0 then (bif inB 1115 1964 then (sM (mU M_7 166 1115 v1) fun M_9 => (mo_law_L52 v1 (fun M_13 => (bif inB 5 1964 then (sM (mU M_13 166 5 1) fun M_15 => (sM (mU M_15 165 6 0) fun M_17 => some (rI v1, M_17))) else none)) FU 0 M_9)) else none) else some (rI 0, M_7)))
def mo_law_J19   (v1 s0 : Int) (M : MM) : OR :=
  (sM (mU M 165 13 s0) fun M_4 => (bif cmpB .ge v1 0 then (mo_law_J32   v1 0 M_4) else (mo_law_J32   v1 1 M_4)))
def mo_law  (M : MM) : OR :=
  (bI (mo_readAll 0 M) fun z_3 M_2 => (bif cmpB .ge z_3 0 then (mo_law_J19   z_3 (-1) M_2) else (mo_law_J19   z_3 (M_2 165 11) M_2)))
def mo_looksAt (v1 : Int) (v3 : Int) (M : MM) : OR :=
  (sM (mU M 165 17 v3) fun M_1 => (bI (mo_placeOf v1 M_1) fun z_5 M_4 => (sM (mU M_4 165 18 z_5) fun M_6 => (bI (mo_otherEnd v3 (M_6 165 18) M_6) fun z_10 M_9 => (sM (mU M_9 165 19 z_10) fun M_11 => (bif inB 6 1964 then (bI (mo_hoursOf v1 M_11) fun z_15 M_14 => (sM (mU M_14 165 20 ((M_11 166 6) + z_15)) fun M_16 => (bI (mo_thingsIn v1 2 M_16) fun z_20 M_19 => (bI (jdk_bitCount z_20 M_19) fun z_23 M_22 => (sM (mU M_22 165 21 z_23) fun M_24 => (bI (mo_thingsIn v1 2 M_24) fun z_28 M_27 => (bI (mo_worthOf z_28 M_27) fun z_31 M_30 => (sM (mU M_30 165 22 z_31) fun M_32 => some (rV, M_32))))))))) else none))))))
def mo_hoursBy (v1 : Int) (v3 : Int) (M : MM) : OR :=
  (bV (mo_looksAt v1 v3 M) fun M_2 => (bI (mo_ofRoad v3 2 M_2) fun z_6 M_5 => (bI (mo_sumOf 1 M_5) fun z_9 M_8 => some (rI (z_6 + z_9), M_8))))
def mo_canGo_J51   (v1 v3 v5 : Int) (M : MM) : OR :=
  (bI (mo_hoursBy v1 v3 M) fun z_12 M_11 => (bI (mo_sumOf 0 M_11) fun z_15 M_14 => (bif cmpB .ne z_15 0 then some (rI 0, M_14) else (bI (mo_isEating v5 ((M_14 165 20) + z_12) M_14) fun z_18 M_17 => (bif cmpB .ne z_18 0 then some (rI 0, M_17) else some (rI 1, M_17))))))
def mo_canGo (v1 : Int) (v3 : Int) (M : MM) : OR :=
  (bI (mo_placeOf v1 M) fun z_3 M_2 => (bI (mo_otherEnd v3 z_3 M_2) fun z_6 M_5 => (bif cmpB .lt z_6 0 then some (rI 0, M_5) else (bI (mo_isKeeper z_3 M_5) fun z_9 M_8 => (bif cmpB .eq z_9 0 then (mo_canGo_J51   v1 v3 z_6 M_8) else (bI (mo_passedIn v1 M_8) fun z_21 M_20 => (bI (mo_has z_21 z_3 M_20) fun z_24 M_23 => (bif cmpB .ne z_24 0 then (mo_canGo_J51   v1 v3 z_6 M_23) else (bI (mo_roadOf v1 M_23) fun z_27 M_26 => (bif cmpB .eq z_27 v3 then (mo_canGo_J51   v1 v3 z_6 M_26) else some (rI 0, M_26)))))))))))
def mo_goes (v1 : Int) (v3 : Int) (M : MM) : OR :=
  (bI (mo_canGo v1 v3 M) fun z_3 M_2 => (bif cmpB .ne z_3 0 then (bI (mo_hoursOf v1 M_2) fun z_6 M_5 => (bI (mo_hoursBy v1 v3 M_5) fun z_9 M_8 => (bif cmpB .le (z_6 + z_9) 30 then (bJ (mo_with v1 0 5 (z_6 + z_9) M_8) fun z_12 M_11 => (bJ (mo_with z_12 5 4 (M_11 165 19) M_11) fun z_15 M_14 => (bJ (mo_with z_15 9 5 (v3 + 1) M_14) fun z_18 M_17 => some (rJ z_18, M_17)))) else some (rJ (-1), M_8)))) else some (rJ (-1), M_2)))
def mo_pays_J83   (v4 v5 : Int) (M : MM) : OR :=
  (bI (mo_of v4 6 M) fun z_27 M_26 => (bif cmpB .ge z_27 0 then (bI (mo_thingsIn v5 2 M_26) fun z_30 M_29 => (bI (jdk_bitCount z_30 M_29) fun z_33 M_32 => (bif cmpB .ge z_33 4 then (bJ (mo_withState v5 z_27 0 M_32) fun z_36 M_35 => some (rJ z_36, M_35)) else (bJ (mo_withState v5 z_27 2 M_32) fun z_39 M_38 => some (rJ z_39, M_38))))) else some (rJ v5, M_26)))
def mo_pays (v1 : Int) (v3 : Int) (M : MM) : OR :=
  (bI (mo_placeOf v1 M) fun z_3 M_2 => (bI (mo_isKeeper z_3 M_2) fun z_6 M_5 => (bif cmpB .eq z_6 0 then some (rJ (-1), M_5) else (bI (mo_passedIn v1 M_5) fun z_9 M_8 => (bI (mo_has z_9 z_3 M_8) fun z_12 M_11 => (bif cmpB .ne z_12 0 then some (rJ (-1), M_11) else (bI (mo_stateOf v1 v3 M_11) fun z_15 M_14 => (bif cmpB .ne z_15 2 then some (rJ (-1), M_14) else (bI (mo_fitsKeeper v3 z_3 M_14) fun z_18 M_17 => (bif cmpB .ne z_18 0 then (bJ (mo_with v1 (34 + z_3) 1 1 M_17) fun z_21 M_20 => (bI (mo_of z_3 5 M_20) fun z_24 M_23 => (bif cmpB .ne z_24 1 then (mo_pays_J83   z_3 z_21 M_23) else (bJ (mo_withState z_21 v3 3 M_23) fun z_42 M_41 => (mo_pays_J83   z_3 z_42 M_41))))) else some (rJ (-1), M_17)))))))))))
def mo_takes (v1 : Int) (v3 : Int) (M : MM) : OR :=
  (bI (mo_stateOf v1 v3 M) fun z_3 M_2 => (bif cmpB .ne z_3 0 then some (rJ (-1), M_2) else (bI (mo_ofThing v3 3 M_2) fun z_6 M_5 => (bI (mo_placeOf v1 M_5) fun z_9 M_8 => (bif cmpB .ne z_6 z_9 then some (rJ (-1), M_8) else (bI (mo_thingsIn v1 2 M_8) fun z_12 M_11 => (bI (jdk_bitCount z_12 M_11) fun z_15 M_14 => (bif cmpB .ge z_15 4 then some (rJ (-1), M_14) else (bJ (mo_withState v1 v3 2 M_14) fun z_18 M_17 => some (rJ z_18, M_17))))))))))
def mo_rule_J68   (v1 v2 s0 : Int) (M : MM) : OR :=
  (bI (mo_throwsIf s0 3 M) fun z_20 M_19 => (bif cmpB .eq z_20 0 then (bJ (mo_now  M_19) fun z_23 M_22 => (bI (mo_hoursBy z_23 v1 M_22) fun z_26 M_25 => (bif cmpB .ne v2 1 then (bif cmpB .ne v2 0 then (bJ (mo_now  M_25) fun z_29 M_28 => (bI (mo_canGo z_29 v1 M_28) fun z_32 M_31 => (bif cmpB .eq z_32 0 then some (rI 0, M_31) else some (rI 1, M_31)))) else (bI (mo_sumOf 0 M_25) fun z_35 M_34 => (bif cmpB .le z_35 0 then some (rI 0, M_34) else some (rI 1, M_34)))) else some (rI z_26, M_25)))) else some (rI 0, M_19)))
def mo_rule_J46   (v1 v2 s0 : Int) (M : MM) : OR :=
  (bI (mo_throwsIf s0 2 M) fun z_14 M_13 => (bif cmpB .ne z_14 0 then some (rI 0, M_13) else (bI (mo_in v2 0 2 M_13) fun z_17 M_16 => (bif cmpB .ne z_17 0 then (mo_rule_J68   v1 v2 0 M_16) else (mo_rule_J68   v1 v2 1 M_16)))))
def mo_rule_J41   (v1 v2 : Int) (M : MM) : OR :=
  (mo_rule_J46   v1 v2 1 M)
def mo_rule (v1 : Int) (v2 : Int) (M : MM) : OR :=
  (sM (mU M 165 0 0) fun M_1 => (bI (mo_noRoad v1 M_1) fun z_5 M_4 => (bI (mo_throwsIf z_5 1 M_4) fun z_8 M_7 => (bif cmpB .ne z_8 0 then some (rI 0, M_7) else (bI (mo_places  M_7) fun z_11 M_10 => (bif cmpB .eq z_11 0 then (mo_rule_J41   v1 v2 M_10) else (bif inB 7 1964 then (bI (mo_otherEnd v1 (M_10 166 7) M_10) fun z_38 M_37 => (bif cmpB .ge z_38 0 then (mo_rule_J46   v1 v2 0 M_37) else (mo_rule_J41   v1 v2 M_37))) else none)))))))
def mo_go_J45   (v1 s0 : Int) (M : MM) : OR :=
  (bI (mo_throwsIf s0 2 M) fun z_14 M_13 => (bif cmpB .eq z_14 0 then (bV (mo_remembers  M_13) fun M_16 => (bJ (mo_now  M_16) fun z_20 M_19 => (bI (mo_hoursBy z_20 v1 M_19) fun z_23 M_22 => (bif inB 7 1964 then (bI (mo_otherEnd v1 (M_22 166 7) M_22) fun z_26 M_25 => (bif inB 6 1964 then (bif inB 6 1964 then (sM (mU M_25 166 6 ((M_25 166 6) + z_23)) fun M_27 => (bif inB 7 1964 then (sM (mU M_27 166 7 z_26) fun M_29 => (bif inB 8 1964 then (sM (mU M_29 166 8 v1) fun M_31 => (bif inB 6 1964 then some (rI (M_31 166 6), M_31) else none)) else none)) else none)) else none) else none)) else none)))) else some (rI 0, M_13)))
def mo_go_J40   (v1 : Int) (M : MM) : OR :=
  (mo_go_J45   v1 1 M)
def mo_go (v1 : Int) (M : MM) : OR :=
  (sM (mU M 165 0 0) fun M_1 => (bI (mo_noRoad v1 M_1) fun z_5 M_4 => (bI (mo_throwsIf z_5 1 M_4) fun z_8 M_7 => (bif cmpB .eq z_8 0 then (bI (mo_places  M_7) fun z_11 M_10 => (bif cmpB .eq z_11 0 then (mo_go_J40   v1 M_10) else (bJ (mo_now  M_10) fun z_35 M_34 => (bI (mo_canGo z_35 v1 M_34) fun z_38 M_37 => (bif cmpB .ne z_38 0 then (mo_go_J45   v1 0 M_37) else (mo_go_J40   v1 M_37)))))) else some (rI 0, M_7)))))
def mo_pay_J42   (v1 v2 s0 : Int) (M : MM) : OR :=
  (bI (mo_throwsIf s0 2 M) fun z_17 M_16 => (bif cmpB .eq z_17 0 then (bV (mo_remembers  M_16) fun M_19 => (bif inB 7 1964 then (bif inB 9 1964 then (bif inB (236 + (3 * (M_19 166 9))) 1964 then (sM (mU M_19 166 ((236 + (3 * (M_19 166 9)))).toNat (M_19 166 7)) fun M_21 => (bif inB ((236 + (3 * (M_19 166 9))) + 1) 1964 then (sM (mU M_21 166 (((236 + (3 * (M_19 166 9))) + 1)).toNat v1) fun M_23 => (bif inB 6 1964 then (bif inB ((236 + (3 * (M_19 166 9))) + 2) 1964 then (sM (mU M_23 166 (((236 + (3 * (M_19 166 9))) + 2)).toNat (M_23 166 6)) fun M_25 => (bif inB 9 1964 then (bif inB 9 1964 then (sM (mU M_25 166 9 ((M_25 166 9) + 1)) fun M_27 => (bV (mo_comes v2 M_27) fun M_30 => (bI (mo_of (M_19 166 7) 6 M_30) fun z_34 M_33 => some (rI z_34, M_33)))) else none) else none)) else none) else none)) else none)) else none) else none) else none)) else some (rI 0, M_16)))
def mo_pay (v1 : Int) (M : MM) : OR :=
  (sM (mU M 165 0 0) fun M_1 => (bI (mo_noThing v1 M_1) fun z_5 M_4 => (bI (mo_throwsIf z_5 1 M_4) fun z_8 M_7 => (bif cmpB .eq z_8 0 then (bJ (mo_now  M_7) fun z_11 M_10 => (bJ (mo_pays z_11 v1 M_10) fun z_14 M_13 => (bif cmpB .ge (lCmp z_14 0) 0 then (mo_pay_J42   v1 z_14 0 M_13) else (mo_pay_J42   v1 z_14 1 M_13)))) else some (rI 0, M_7)))))
def mo_take (v1 : Int) (M : MM) : OR :=
  (sM (mU M 165 0 0) fun M_1 => (bI (mo_noThing v1 M_1) fun z_5 M_4 => (bI (mo_throwsIf z_5 1 M_4) fun z_8 M_7 => (bif cmpB .eq z_8 0 then (bJ (mo_now  M_7) fun z_11 M_10 => (bJ (mo_takes z_11 v1 M_10) fun z_14 M_13 => (bif cmpB .ge (lCmp z_14 0) 0 then (bI (mo_throwsIf 0 2 M_13) fun z_17 M_16 => (bif cmpB .eq z_17 0 then (bV (mo_remembers  M_16) fun M_19 => (bV (mo_comes z_14 M_19) fun M_22 => (bI (mo_thingsIn z_14 2 M_22) fun z_26 M_25 => (bI (jdk_bitCount z_26 M_25) fun z_29 M_28 => some (rI z_29, M_28))))) else some (rI 0, M_16))) else (bI (mo_throwsIf 1 2 M_13) fun z_32 M_31 => (bif cmpB .eq z_32 0 then (bV (mo_remembers  M_31) fun M_34 => (bV (mo_comes z_14 M_34) fun M_37 => (bI (mo_thingsIn z_14 2 M_37) fun z_41 M_40 => (bI (jdk_bitCount z_41 M_40) fun z_44 M_43 => some (rI z_44, M_43))))) else some (rI 0, M_31)))))) else some (rI 0, M_7)))))
def mo_lay_J34   (v1 s0 : Int) (M : MM) : OR :=
  (bI (mo_throwsIf s0 2 M) fun z_14 M_13 => (bif cmpB .eq z_14 0 then (bV (mo_remembers  M_13) fun M_16 => (bif inB ((90 + (4 * v1)) + 2) 1964 then (sM (mU M_16 166 (((90 + (4 * v1)) + 2)).toNat 0) fun M_18 => (bif inB 7 1964 then (bif inB ((90 + (4 * v1)) + 3) 1964 then (sM (mU M_18 166 (((90 + (4 * v1)) + 3)).toNat (M_18 166 7)) fun M_20 => (bJ (mo_now  M_20) fun z_24 M_23 => (bI (mo_thingsIn z_24 2 M_23) fun z_27 M_26 => (bI (jdk_bitCount z_27 M_26) fun z_30 M_29 => some (rI z_30, M_29))))) else none) else none)) else none)) else some (rI 0, M_13)))
def mo_lay (v1 : Int) (M : MM) : OR :=
  (sM (mU M 165 0 0) fun M_1 => (bI (mo_noThing v1 M_1) fun z_5 M_4 => (bI (mo_throwsIf z_5 1 M_4) fun z_8 M_7 => (bif cmpB .ne z_8 0 then some (rI 0, M_7) else (bI (mo_ofThing v1 2 M_7) fun z_11 M_10 => (bif cmpB .eq z_11 2 then (mo_lay_J34   v1 0 M_10) else (mo_lay_J34   v1 1 M_10)))))))
def mo_free (v1 : Int) (M : MM) : OR :=
  (sM (mU M 165 0 0) fun M_1 => (bI (mo_noBrother v1 M_1) fun z_5 M_4 => (bI (mo_throwsIf z_5 1 M_4) fun z_8 M_7 => (bif cmpB .eq z_8 0 then (bJ (mo_now  M_7) fun z_11 M_10 => (bJ (mo_frees z_11 v1 M_10) fun z_14 M_13 => (bif cmpB .ge (lCmp z_14 0) 0 then (bI (mo_throwsIf 0 2 M_13) fun z_17 M_16 => (bif cmpB .eq z_17 0 then (bV (mo_remembers  M_16) fun M_19 => (bV (mo_comes z_14 M_19) fun M_22 => (bI (mo_freedNow  M_22) fun z_26 M_25 => (bI (jdk_bitCount z_26 M_25) fun z_29 M_28 => some (rI z_29, M_28))))) else some (rI 0, M_16))) else (bI (mo_throwsIf 1 2 M_13) fun z_32 M_31 => (bif cmpB .eq z_32 0 then (bV (mo_remembers  M_31) fun M_34 => (bV (mo_comes z_14 M_34) fun M_37 => (bI (mo_freedNow  M_37) fun z_41 M_40 => (bI (jdk_bitCount z_41 M_40) fun z_44 M_43 => some (rI z_44, M_43))))) else some (rI 0, M_31)))))) else some (rI 0, M_7)))))
def mo_spreads_L30  (v1 : Int) (K1 : Int → MM → OR) : Nat → Int → Int → MM → OR
  | 0, _, _, _ => none
  | n + 1, v3, v4, M => (bI (mo_roads  M) fun z_6 M_5 => (bif cmpB .ge v4 z_6 then (K1 v3 M_5) else (bif cmpB .eq v3 0 then (mo_spreads_L30 v1 K1 n 0 (v4 + 1) M_5) else (bJ (mo_goes v1 v4 M_5) fun z_9 M_8 => (bI (mo_isMet z_9 M_8) fun z_12 M_11 => (bif cmpB .eq z_12 0 then (mo_spreads_L30 v1 K1 n 0 (v4 + 1) M_11) else (mo_spreads_L30 v1 K1 n 1 (v4 + 1) M_11)))))))
def mo_spreads_L72  (v1 : Int) (K1 : Int → MM → OR) : Nat → Int → Int → MM → OR
  | 0, _, _, _ => none
  | n + 1, v3, v4, M => (bI (mo_things  M) fun z_18 M_17 => (bif cmpB .ge v4 z_18 then (K1 v3 M_17) else (bif cmpB .eq v3 0 then (mo_spreads_L72 v1 K1 n 0 (v4 + 1) M_17) else (bJ (mo_pays v1 v4 M_17) fun z_21 M_20 => (bI (mo_isMet z_21 M_20) fun z_24 M_23 => (bif cmpB .eq z_24 0 then (mo_spreads_L72 v1 K1 n 0 (v4 + 1) M_23) else (bJ (mo_takes v1 v4 M_23) fun z_27 M_26 => (bI (mo_isMet z_27 M_26) fun z_30 M_29 => (bif cmpB .eq z_30 0 then (mo_spreads_L72 v1 K1 n 0 (v4 + 1) M_29) else (mo_spreads_L72 v1 K1 n 1 (v4 + 1) M_29))))))))))
def mo_spreads_L128  (v1 : Int) (K1 : Int → MM → OR) : Nat → Int → Int → MM → OR
  | 0, _, _, _ => none
  | n + 1, v3, v4, M => (bI (mo_brothers  M) fun z_36 M_35 => (bif cmpB .ge v4 z_36 then (K1 v3 M_35) else (bif cmpB .eq v3 0 then (mo_spreads_L128 v1 K1 n 0 (v4 + 1) M_35) else (bJ (mo_frees v1 v4 M_35) fun z_39 M_38 => (bI (mo_isMet z_39 M_38) fun z_42 M_41 => (bif cmpB .eq z_42 0 then (mo_spreads_L128 v1 K1 n 0 (v4 + 1) M_41) else (mo_spreads_L128 v1 K1 n 1 (v4 + 1) M_41)))))))
def mo_spreads_J26   (v1 s0 : Int) (M : MM) : OR :=
  (mo_spreads_L30 v1 (fun v3_13 M_14 => (mo_spreads_L72 v1 (fun v3_31 M_32 => (mo_spreads_L128 v1 (fun v3_43 M_44 => (bif zo v3_43 then some (rI v3_43, M_44) else none)) FU v3_31 0 M_32)) FU v3_13 0 M_14)) FU s0 0 M)
def mo_spreads_J21   (v1 : Int) (M : MM) : OR :=
  (mo_spreads_J26   v1 1 M)
def mo_spreads (v1 : Int) (M : MM) : OR :=
  (bI (mo_hoursOf v1 M) fun z_3 M_2 => (bif cmpB .eq z_3 30 then (mo_spreads_J21   v1 M_2) else (bJ (mo_waits v1 M_2) fun z_51 M_50 => (bI (mo_isMet z_51 M_50) fun z_54 M_53 => (bif cmpB .eq z_54 0 then (mo_spreads_J26   v1 0 M_53) else (mo_spreads_J21   v1 M_53))))))
def mo_searches_L2  (K1 : MM → OR) : Nat → Int → MM → OR
  | 0, _, _ => none
  | n + 1, v1, M => (bif cmpB .ge v1 16384 then (K1  M) else (bif inB v1 16384 then (sM (mU M 174 (v1).toNat 0) fun M_1 => (mo_searches_L2  K1 n (v1 + 1) M_1)) else none))
def mo_searches_L38  (K1 : Int → MM → OR) : Nat → Int → Int → MM → OR
  | 0, _, _, _ => none
  | n + 1, v1, v2, M => (bif cmpB .ge v2 (M 165 25) then (K1 v1 M) else (bif cmpB .eq v1 0 then (K1 v1 M) else (bif inB v2 6000 then (bI (mo_spreads (M 173 (v2).toNat) M) fun z_16 M_15 => (mo_searches_L38  K1 n z_16 (v2 + 1) M_15)) else none)))
def mo_searches  (M : MM) : OR :=
  (mo_searches_L2  (fun M_3 => (sM (mU M_3 165 25 0) fun M_6 => (bJ (mo_now  M_6) fun z_10 M_9 => (bI (mo_isMet z_10 M_9) fun z_13 M_12 => (mo_searches_L38  (fun v1_17 M_18 => (bif zo v1_17 then some (rI v1_17, M_18) else none)) FU z_13 0 M_12))))) FU 0 M)
def mo_soonest_L48  (v2 : Int) (K1 : Int → MM → OR) : Nat → Int → Int → MM → OR
  | 0, _, _, _ => none
  | n + 1, v3, v4, M => (bif cmpB .ge v4 (M 165 25) then (K1 v3 M) else (bif inB v4 6000 then (bI (mo_hoursOf (M 173 (v4).toNat) M) fun z_17 M_16 => (bif inB v4 6000 then (bI (mo_freedIn (M_16 173 (v4).toNat) M_16) fun z_20 M_19 => (bif cmpB .ne (iAnd v2 (iXor z_20 (-1))) 0 then (mo_soonest_L48 v2 K1 n v3 (v4 + 1) M_19) else (bif cmpB .lt v3 0 then (mo_soonest_L48 v2 K1 n z_17 (v4 + 1) M_19) else (bif cmpB .ge z_17 v3 then (mo_soonest_L48 v2 K1 n v3 (v4 + 1) M_19) else (mo_soonest_L48 v2 K1 n z_17 (v4 + 1) M_19))))) else none)) else none))
def mo_soonest_J18   (v1 s0 : Int) (M : MM) : OR :=
  (bI (mo_throwsIf s0 1 M) fun z_8 M_7 => (bif cmpB .eq z_8 0 then (bI (mo_searches  M_7) fun z_11 M_10 => (bif cmpB .ne z_11 0 then (bI (mo_allBrothers v1 M_10) fun z_14 M_13 => (mo_soonest_L48 z_14 (fun v3_21 M_22 => some (rI v3_21, M_22)) FU (-1) 0 M_13)) else some (rI (-3), M_10))) else some (rI 0, M_7)))
def mo_soonest (v1 : Int) (M : MM) : OR :=
  (sM (mU M 165 0 0) fun M_1 => (bI (mo_places  M_1) fun z_5 M_4 => (bif cmpB .ne z_5 0 then (mo_soonest_J18   v1 0 M_4) else (mo_soonest_J18   v1 1 M_4))))
def mo_reached_L34  (v1 : Int) (K1 : Int → MM → OR) : Nat → Int → Int → MM → OR
  | 0, _, _, _ => none
  | n + 1, v2, v3, M => (bif cmpB .ge v3 (M 165 25) then (K1 v2 M) else (bif inB v3 6000 then (bI (mo_placeOf (M 173 (v3).toNat) M) fun z_14 M_13 => (bif cmpB .ne z_14 v1 then (mo_reached_L34 v1 K1 n v2 (v3 + 1) M_13) else (bif cmpB .lt v2 0 then (bif inB v3 6000 then (bI (mo_hoursOf (M_13 173 (v3).toNat) M_13) fun z_17 M_16 => (mo_reached_L34 v1 K1 n z_17 (v3 + 1) M_16)) else none) else (bif inB v3 6000 then (bI (mo_hoursOf (M_13 173 (v3).toNat) M_13) fun z_20 M_19 => (bif cmpB .ge z_20 v2 then (mo_reached_L34 v1 K1 n v2 (v3 + 1) M_19) else (bif inB v3 6000 then (bI (mo_hoursOf (M_19 173 (v3).toNat) M_19) fun z_23 M_22 => (mo_reached_L34 v1 K1 n z_23 (v3 + 1) M_22)) else none))) else none)))) else none))
def mo_reached (v1 : Int) (M : MM) : OR :=
  (sM (mU M 165 0 0) fun M_1 => (bI (mo_noPlace v1 M_1) fun z_5 M_4 => (bI (mo_throwsIf z_5 1 M_4) fun z_8 M_7 => (bif cmpB .eq z_8 0 then (bI (mo_searches  M_7) fun z_11 M_10 => (bif cmpB .ne z_11 0 then (mo_reached_L34 v1 (fun v2_24 M_25 => some (rI v2_24, M_25)) FU (-1) 0 M_10) else some (rI (-3), M_10))) else some (rI 0, M_7)))))
def mo_spared_L61  (v2 v3 : Int) (K1 : Int → MM → OR) : Nat → Int → Int → MM → OR
  | 0, _, _, _ => none
  | n + 1, v4, v5, M => (bif cmpB .ge v5 (M 165 25) then (K1 v4 M) else (bif inB v5 6000 then (bI (mo_thingsIn (M 173 (v5).toNat) 3 M) fun z_20 M_19 => (bI (mo_worthOf (iAnd z_20 (iXor v3 (-1))) M_19) fun z_23 M_22 => (bif inB v5 6000 then (bI (mo_freedIn (M_22 173 (v5).toNat) M_22) fun z_26 M_25 => (bif cmpB .ne (iAnd v2 (iXor z_26 (-1))) 0 then (mo_spared_L61 v2 v3 K1 n v4 (v5 + 1) M_25) else (bif cmpB .lt v4 0 then (mo_spared_L61 v2 v3 K1 n z_23 (v5 + 1) M_25) else (bif cmpB .ge z_23 v4 then (mo_spared_L61 v2 v3 K1 n v4 (v5 + 1) M_25) else (mo_spared_L61 v2 v3 K1 n z_23 (v5 + 1) M_25))))) else none))) else none))
def mo_spared_J18   (v1 s0 : Int) (M : MM) : OR :=
  (bI (mo_throwsIf s0 1 M) fun z_8 M_7 => (bif cmpB .eq z_8 0 then (bI (mo_searches  M_7) fun z_11 M_10 => (bif cmpB .ne z_11 0 then (bI (mo_allBrothers v1 M_10) fun z_14 M_13 => (bif inB 0 6000 then (bI (mo_thingsIn (M_13 173 0) 3 M_13) fun z_17 M_16 => (mo_spared_L61 z_14 z_17 (fun v4_27 M_28 => some (rI v4_27, M_28)) FU (-1) 0 M_16)) else none)) else some (rI (-3), M_10))) else some (rI 0, M_7)))
def mo_spared (v1 : Int) (M : MM) : OR :=
  (sM (mU M 165 0 0) fun M_1 => (bI (mo_places  M_1) fun z_5 M_4 => (bif cmpB .ne z_5 0 then (mo_spared_J18   v1 0 M_4) else (mo_spared_J18   v1 1 M_4))))
def mo_locked_L50  (K1 : Int → MM → OR) : Nat → Int → Int → MM → OR
  | 0, _, _, _ => none
  | n + 1, v2, v3, M => (bI (mo_places  M) fun z_14 M_13 => (bif cmpB .ge v3 z_14 then (K1 v2 M_13) else (bI (mo_isKeeper v3 M_13) fun z_17 M_16 => (bif cmpB .eq z_17 0 then (mo_locked_L50  K1 n (iOr v2 0) (v3 + 1) M_16) else (mo_locked_L50  K1 n (iOr v2 (iShl 1 v3)) (v3 + 1) M_16)))))
def mo_locked_L84  (K1 : Int → MM → OR) : Nat → Int → Int → MM → OR
  | 0, _, _, _ => none
  | n + 1, v2, v3, M => (bif cmpB .ge v3 (M 165 25) then (K1 v2 M) else (bif inB v3 6000 then (bI (mo_passedIn (M 173 (v3).toNat) M) fun z_26 M_25 => (mo_locked_L84  K1 n (iAnd v2 (iXor z_26 (-1))) (v3 + 1) M_25)) else none))
def mo_locked_J18   (v1 s0 : Int) (M : MM) : OR :=
  (bI (mo_throwsIf s0 1 M) fun z_8 M_7 => (bif cmpB .eq z_8 0 then (bI (mo_searches  M_7) fun z_11 M_10 => (bif cmpB .ne z_11 0 then (bif cmpB .eq v1 0 then (mo_locked_L50  (fun v2_20 M_21 => (mo_locked_L84  (fun v2_28 M_29 => some (rI v2_28, M_29)) FU v2_20 0 M_21)) FU 0 0 M_10) else some (rI (M_10 165 25), M_10)) else some (rI (-3), M_10))) else some (rI 0, M_7)))
def mo_locked (v1 : Int) (M : MM) : OR :=
  (sM (mU M 165 0 0) fun M_1 => (bI (mo_places  M_1) fun z_5 M_4 => (bif cmpB .ne z_5 0 then (mo_locked_J18   v1 0 M_4) else (mo_locked_J18   v1 1 M_4))))
def mo_locks_L45  (v1 v5 : Int) (K1 : Int → Int → MM → OR) : Nat → Int → Int → Int → MM → OR
  | 0, _, _, _, _ => none
  | n + 1, v3, v4, v6, M => (bif cmpB .ge v6 16 then (K1 v3 v4 M) else (bif cmpB .ne (iAnd v6 (iXor v5 (-1))) 0 then (mo_locks_L45 v1 v5 K1 n v3 v4 (v6 + 1) M) else (bI (mo_tellsAll v5 v6 M) fun z_10 M_9 => (bif cmpB .ne z_10 0 then (bif cmpB .lt v4 0 then (mo_locks_L45 v1 v5 K1 n (v3 + 1) ((16 * v5) + v6) (v6 + 1) M_9) else (bI (jdk_bitCount v5 M_9) fun z_14 M_13 => (bI (jdk_bitCount (iShr v4 4) M_13) fun z_17 M_16 => (bif cmpB .ge z_14 z_17 then (mo_locks_L45 v1 v5 K1 n (v3 + 1) v4 (v6 + 1) M_16) else (mo_locks_L45 v1 v5 K1 n (v3 + 1) ((16 * v5) + v6) (v6 + 1) M_16))))) else (mo_locks_L45 v1 v5 K1 n v3 v4 (v6 + 1) M_9)))))
def mo_locks_L35  (v1 : Int) (K1 : Int → Int → MM → OR) : Nat → Int → Int → Int → MM → OR
  | 0, _, _, _, _ => none
  | n + 1, v3, v4, v5, M => (bif cmpB .ge v5 16 then (K1 v3 v4 M) else (mo_locks_L45 v1 v5 (fun v3_18 v4_19 M_20 => (mo_locks_L35 v1 K1 n v3_18 v4_19 (v5 + 1) M_20)) FU v3 v4 0 M))
def mo_locks_J18   (v1 s0 : Int) (M : MM) : OR :=
  (bI (mo_throwsIf s0 1 M) fun z_6 M_5 => (bif cmpB .eq z_6 0 then (mo_locks_L35 v1 (fun v3_23 v4_24 M_25 => (bif cmpB .eq v1 0 then some (rI v3_23, M_25) else some (rI v4_24, M_25))) FU 0 (-1) 0 M_5) else some (rI 0, M_5)))
def mo_locks (v1 : Int) (M : MM) : OR :=
  (bI (mo_readTwos 15 1 M) fun z_3 M_2 => (bif cmpB .ne z_3 0 then (mo_locks_J18   v1 0 M_2) else (mo_locks_J18   v1 1 M_2)))
def drv_thing (v1 : Int) (v2 : Int) (M : MM) : OR :=
  (bH (gh_thing v1 v2 M) (fun z_3 M_2 => (bif inB 0 1 then (sM (mU M_2 181 0 (w32 z_3)) fun M_4 => some (rI 0, M_4)) else none)) fun c_6 M_2 => (bif Nat.beq c_6 15 then some (rI 1, M_2) else (bif Nat.beq c_6 16 then some (rI 2, M_2) else none)))
def drv_road (v1 : Int) (v2 : Int) (M : MM) : OR :=
  (bH (gh_road v1 v2 M) (fun z_3 M_2 => (bif inB 0 1 then (sM (mU M_2 181 0 (w32 z_3)) fun M_4 => some (rI 0, M_4)) else none)) fun c_6 M_2 => (bif Nat.beq c_6 15 then some (rI 1, M_2) else (bif Nat.beq c_6 16 then some (rI 2, M_2) else none)))
def drv_brother (v1 : Int) (v2 : Int) (M : MM) : OR :=
  (bH (gh_brother v1 v2 M) (fun z_3 M_2 => (bif inB 0 1 then (sM (mU M_2 181 0 (w32 z_3)) fun M_4 => some (rI 0, M_4)) else none)) fun c_6 M_2 => (bif Nat.beq c_6 15 then some (rI 1, M_2) else (bif Nat.beq c_6 16 then some (rI 2, M_2) else none)))
def drv_girl (v1 : Int) (M : MM) : OR :=
  (bH (gh_girl v1 M) (fun z_3 M_2 => (bif inB 0 1 then (sM (mU M_2 181 0 (w32 z_3)) fun M_4 => some (rI 0, M_4)) else none)) fun c_6 M_2 => (bif Nat.beq c_6 16 then some (rI 1, M_2) else (bif Nat.beq c_6 14 then some (rI 2, M_2) else none)))
def drv_fits (v1 : Int) (v2 : Int) (M : MM) : OR :=
  (bH (gh_fits v1 v2 M) (fun z_3 M_2 => (bif cmpB .eq z_3 0 then (bif inB 0 1 then (sM (mU M_2 181 0 0) fun M_4 => some (rI 0, M_4)) else none) else (bif inB 0 1 then (sM (mU M_2 181 0 1) fun M_6 => some (rI 0, M_6)) else none))) fun c_8 M_2 => (bif Nat.beq c_8 15 then some (rI 1, M_2) else (bif Nat.beq c_8 14 then some (rI 2, M_2) else none)))
def drv_delay (v1 : Int) (M : MM) : OR :=
  (bH (gh_delay v1 M) (fun z_3 M_2 => (bif inB 0 1 then (sM (mU M_2 181 0 (w32 z_3)) fun M_4 => some (rI 0, M_4)) else none)) fun c_6 M_2 => (bif Nat.beq c_6 13 then some (rI 1, M_2) else (bif Nat.beq c_6 14 then some (rI 2, M_2) else none)))
def drv_lay (v1 : Int) (M : MM) : OR :=
  (bH (gh_lay v1 M) (fun z_3 M_2 => (bif inB 0 1 then (sM (mU M_2 181 0 (w32 z_3)) fun M_4 => some (rI 0, M_4)) else none)) fun c_6 M_2 => (bif Nat.beq c_6 15 then some (rI 1, M_2) else (bif Nat.beq c_6 14 then some (rI 2, M_2) else none)))
def drv_free (v1 : Int) (M : MM) : OR :=
  (bH (gh_free v1 M) (fun z_3 M_2 => (bif inB 0 1 then (sM (mU M_2 181 0 (w32 z_3)) fun M_4 => some (rI 0, M_4)) else none)) fun c_6 M_2 => (bif Nat.beq c_6 15 then some (rI 1, M_2) else (bif Nat.beq c_6 14 then some (rI 2, M_2) else none)))
def drv_far (v1 : Int) (v2 : Int) (M : MM) : OR :=
  (bH (gh_far v1 v2 M) (fun z_3 M_2 => (bif inB 0 1 then (sM (mU M_2 181 0 (w32 z_3)) fun M_4 => some (rI 0, M_4)) else none)) fun c_6 M_2 => (bif Nat.beq c_6 15 then some (rI 1, M_2) else none))
def drv_turnBack (v1 : Int) (M : MM) : OR :=
  (bH (gh_turnBack v1 M) (fun z_3 M_2 => (bif inB 0 1 then (sM (mU M_2 181 0 (w32 z_3)) fun M_4 => some (rI 0, M_4)) else none)) fun c_6 M_2 => (bif Nat.beq c_6 13 then some (rI 1, M_2) else (bif Nat.beq c_6 14 then some (rI 2, M_2) else none)))
def drv_meet (v1 : Int) (v2 : Int) (v3 : Int) (M : MM) : OR :=
  (bH (gh_meet v1 v2 v3 M) (fun z_3 M_2 => (bif inB 0 1 then (sM (mU M_2 181 0 (w32 z_3)) fun M_4 => some (rI 0, M_4)) else none)) fun c_6 M_2 => (bif Nat.beq c_6 15 then some (rI 1, M_2) else none))
def drv_surest (v1 : Int) (v2 : Int) (M : MM) : OR :=
  (bH (gh_surest v1 v2 M) (fun z_3 M_2 => (bif inB 0 1 then (sM (mU M_2 181 0 (w32 z_3)) fun M_4 => some (rI 0, M_4)) else none)) fun c_6 M_2 => (bif Nat.beq c_6 15 then some (rI 1, M_2) else none))
def drv_locks (v1 : Int) (M : MM) : OR :=
  (bH (gh_locks v1 M) (fun z_3 M_2 => (bif inB 0 1 then (sM (mU M_2 181 0 (w32 z_3)) fun M_4 => some (rI 0, M_4)) else none)) fun c_6 M_2 => (bif Nat.beq c_6 13 then some (rI 1, M_2) else none))
def drv_sign (v1 : Int) (M : MM) : OR :=
  (bH (gh_sign v1 M) (fun z_3 M_2 => (bif inB 0 1 then (sM (mU M_2 181 0 (w32 z_3)) fun M_4 => some (rI 0, M_4)) else none)) fun c_6 M_2 => (bif Nat.beq c_6 15 then some (rI 1, M_2) else none))
def jny_receive (a : Nat) (v1 : Int) (M : MM) : OR :=
  (sM (mU M a 5 (iAnd (M a 5) (iXor (iShl 1 v1) (-1)))) fun M_1 => (bI (gh_hasRoom (M_1 a 3) M_1) fun z_5 M_4 => (bif cmpB .eq z_5 0 then some (rV, M_4) else (sM (mU M_4 a 3 (iOr (M_4 a 3) (iShl 1 v1))) fun M_6 => some (rV, M_6)))))
def lawr_readAll_L7 (R : Int → MM → OR)  (v1 : Int) (K1 : MM → OR) : Nat → Int → MM → OR
  | 0, _, _ => none
  | n + 1, v2, M => (bif cmpB .ge v2 400 then (K1  M) else (bI (tape_tookWord 30 M) fun z_6 M_5 => (bif cmpB .eq z_6 0 then (K1  M_5) else (bV (R v1 M_5) fun M_8 => (bV (law_append 43 1009 M_8) fun M_11 => (lawr_readAll_L7 R v1 K1 n (v2 + 1) M_11))))))
def lawr_readAll (R : Int → MM → OR) (v1 : Int) (M : MM) : OR :=
  (bV (R v1 M) fun M_2 => (lawr_readAll_L7 R v1 (fun M_13 => some (rV, M_13)) FU 0 M_2))
def lawr_readComparison  (M : MM) : OR :=
  (bI (tape_tookMark 60 M) fun z_3 M_2 => (bif cmpB .eq z_3 0 then (bI (tape_tookMark 62 M_2) fun z_6 M_5 => (bif cmpB .ne z_6 0 then some (rI 1013, M_5) else (bV (tape_fail  M_5) fun M_8 => some (rI 1013, M_8)))) else some (rI 1012, M_2)))
def lawr_readPart  (M : MM) : OR :=
  (bI (tape_nextIsDigit  M) fun z_3 M_2 => (bif cmpB .eq z_3 0 then (bI (tape_tookWord 23 M_2) fun z_6 M_5 => (bif cmpB .eq z_6 0 then (bI (tape_tookWord 24 M_5) fun z_9 M_8 => (bif cmpB .eq z_9 0 then (bI (tape_tookWord 25 M_8) fun z_12 M_11 => (bif cmpB .eq z_12 0 then (bI (tape_tookWord 26 M_11) fun z_15 M_14 => (bif cmpB .eq z_15 0 then (bI (tape_tookWord 27 M_14) fun z_18 M_17 => (bif cmpB .eq z_18 0 then (bI (tape_tookWord 28 M_17) fun z_21 M_20 => (bif cmpB .eq z_21 0 then (bI (tape_tookWord 29 M_20) fun z_24 M_23 => (bif cmpB .eq z_24 0 then (bV (tape_fail  M_23) fun M_26 => some (rV, M_26)) else (bV (law_append 43 1006 M_23) fun M_29 => some (rV, M_29)))) else (bV (law_append 43 1005 M_20) fun M_32 => some (rV, M_32)))) else (bV (law_append 43 1004 M_17) fun M_35 => some (rV, M_35)))) else (bV (law_append 43 1003 M_14) fun M_38 => some (rV, M_38)))) else (bV (law_append 43 1002 M_11) fun M_41 => some (rV, M_41)))) else (bV (law_append 43 1001 M_8) fun M_44 => some (rV, M_44)))) else (bV (law_append 43 1000 M_5) fun M_47 => some (rV, M_47)))) else (bI (tape_needNumber 0 999 M_2) fun z_51 M_50 => (bV (law_append 43 z_51 M_50) fun M_53 => some (rV, M_53)))))
def ridd_gateAnswer (v1 : Int) (M : MM) : OR :=
  (bI (jdk_bitCount (M 23 7) M) fun z_3 M_2 => (bif cmpB .lt v1 (-1) then some (rI (-1), M_2) else (bif cmpB .ge v1 z_3 then some (rI (-1), M_2) else (bif cmpB .lt v1 7 then (sM (mU M_2 161 5 1000000000) fun M_4 => (bV (ridd_orderOn_F 12 0 (M_4 23 7) 0 0 M_4) fun M_7 => (bif cmpB .ne v1 (-1) then (bif inB v1 7 then some (rI (M_7 163 (v1).toNat), M_7) else none) else some (rI (M_7 161 5), M_7)))) else some (rI (-1), M_2)))))
def ridd_platesAnswer_L25  (v2 : Int) (K1 : Int → MM → OR) (K2 : MM → OR) : Nat → Int → Int → Int → MM → OR
  | 0, _, _, _, _ => none
  | n + 1, v3, v4, v5, M => (bif cmpB .gt v5 v2 then (K1 v4 M) else (bI (ridd_leastThatGoesOn v5 v3 M) fun z_6 M_5 => (bif cmpB .ne z_6 (-1) then (ridd_platesAnswer_L25 v2 K1 K2 n (iOr v3 (iShl 1 z_6)) z_6 (v5 + 1) M_5) else (K2  M_5))))
def ridd_platesAnswer (v1 : Int) (v2 : Int) (M : MM) : OR :=
  (bV (ridd_countWays v1 M) fun M_2 => (bif cmpB .ne v2 (-1) then (ridd_platesAnswer_L25 v2 (fun v4_7 M_8 => some (rI v4_7, M_8)) (fun M_14 => some (rI (-1), M_14)) FU 0 (-1) 0 M_2) else (bif inB 0 128 then some (rI (M_2 164 0), M_2) else none)))
def srch_addRoads_L15 (q : Nat) (v1 v3 : Int) (K1 : MM → OR) : Nat → Int → MM → OR
  | 0, _, _ => none
  | n + 1, v4, M => (bif cmpB .ge v4 (M 3 2) then (K1  M) else (bif cmpB .ge v4 16 then (K1  M) else (bI (stps_arrival v4 (M 1000 11) v3 (M 1000 13) (M 1000 12) ((M 23 1) + (M 1000 10)) M) fun z_3 M_2 => (bif cmpB .eq z_3 (-1) then (srch_addRoads_L15 q v1 v3 K1 n (v4 + 1) M_2) else (bif cmpB .gt (z_3 - (M_2 23 1)) 30 then (srch_addRoads_L15 q v1 v3 K1 n (v4 + 1) M_2) else (bI (land_otherEnd 3 v4 (M_2 1000 11) M_2) fun z_7 M_6 => (bV (srch_add q (lOr (lOr (lOr (lAnd v1 140737488355327) (lShl (w32 z_7) 47)) (lShl (w32 (v4 + 1)) 51)) (lShl (w32 (z_3 - (M_6 23 1))) 56)) M_6) fun M_10 => (srch_addRoads_L15 q v1 v3 K1 n (v4 + 1) M_10))))))))
def srch_addRoads (q : Nat) (v1 : Int) (M : MM) : OR :=
  (srch_addRoads_L15 q v1 ((lAnd (lUshr v1 51) 31) - 1) (fun M_13 => some (rV, M_13)) FU 0 M)
def srch_paid_J66 (q : Nat)  (v4 v6 : Int) (M : MM) : OR :=
  (bif inB (M 1000 11) 10 then (bif cmpB .ne (M 8 ((M 1000 11)).toNat) (-1) then (bI (gh_hasRoom v6 M) fun z_7 M_6 => (bif cmpB .eq z_7 0 then some (rJ (lOr v4 (lShl 1 (20 + (M 8 ((M 1000 11)).toNat)))), M_6) else some (rJ (lOr v4 (lShl 1 (M 8 ((M 1000 11)).toNat))), M_6))) else some (rJ v4, M)) else none)
def srch_paid (q : Nat) (v1 : Int) (v3 : Int) (M : MM) : OR :=
  (bI (gh_bit (M 3 6) (M 1000 11) M) fun z_3 M_2 => (bif cmpB .ne z_3 1 then (srch_paid_J66 q  (lOr v1 (lShl 1 (30 + (M 1000 11)))) (M 1000 12) M_2) else (srch_paid_J66 q  (lOr (lAnd (lOr v1 (lShl 1 (30 + (M 1000 11)))) (lXor (lShl 1 v3) (-1))) (lShl 1 (10 + v3))) (iAnd (M 1000 12) (iXor (iShl 1 v3) (-1))) M_2)))
def srch_addTakes_L105 (q : Nat) (v1 v6 : Int) (K1 : MM → OR) : Nat → Int → MM → OR
  | 0, _, _ => none
  | n + 1, v7, M => (bif cmpB .ge v7 10 then (K1  M) else (bI (gh_bit v6 v7 M) fun z_12 M_11 => (bif cmpB .ne z_12 1 then (srch_addTakes_L105 q v1 v6 K1 n (v7 + 1) M_11) else (bV (srch_add q (lOr (lAnd v1 (lXor (lShl 1 (20 + v7)) (-1))) (lShl 1 v7)) M_11) fun M_15 => (srch_addTakes_L105 q v1 v6 K1 n (v7 + 1) M_15)))))
def srch_addTakes_J99 (q : Nat)  (v1 s0 s1 : Int) (M : MM) : OR :=
  (srch_addTakes_L105 q v1 (iOr s1 s0) (fun M_18 => some (rV, M_18)) FU 0 M)
def srch_addTakes_J67 (q : Nat)  (v1 v3 v4 s0 : Int) (M : MM) : OR :=
  (bif inB (M 1000 11) 10 then (bif cmpB .ne s0 (-1) then (srch_addTakes_J99 q  v1 (iAnd v4 (iShl 1 s0)) (iAnd (M 1004 ((M 1000 11)).toNat) (iXor v3 (-1))) M) else (srch_addTakes_J99 q  v1 0 (iAnd (M 1004 ((M 1000 11)).toNat) (iXor v3 (-1))) M)) else none)
def srch_addTakes (q : Nat) (v1 : Int) (M : MM) : OR :=
  (bI (gh_hasRoom (M 1000 12) M) fun z_3 M_2 => (bif cmpB .ne z_3 0 then (bI (land_hasKeeper 3 (M_2 1000 11) M_2) fun z_7 M_6 => (bif cmpB .eq z_7 0 then (srch_addTakes_J67 q  v1 (iOr (M_2 1000 12) (iAnd (lUshr v1 10) 1023)) (iAnd (lUshr v1 20) 1023) (-1) M_6) else (bif inB (M_6 1000 11) 10 then (srch_addTakes_J67 q  v1 (iOr (M_2 1000 12) (iAnd (lUshr v1 10) 1023)) (iAnd (lUshr v1 20) 1023) (M_6 8 ((M_6 1000 11)).toNat) M_6) else none))) else some (rV, M_2)))
def tale_readMeal (v1 : Int) (M : MM) : OR :=
  (bif inB v1 10 then (sM (mU M 32 (v1).toNat (-1)) fun M_1 => (bif inB v1 10 then (sM (mU M_1 33 (v1).toNat (-1)) fun M_3 => (bI (tape_tookWord 9 M_3) fun z_7 M_6 => (bif cmpB .eq z_7 0 then some (rV, M_6) else (bI (tape_needNumber 0 23 M_6) fun z_10 M_9 => (bV (tape_needWord 10 M_9) fun M_12 => (bif inB v1 10 then (sM (mU M_12 32 (v1).toNat z_10) fun M_14 => (bI (tape_needNumber z_10 23 M_14) fun z_18 M_17 => (bif inB v1 10 then (sM (mU M_17 33 (v1).toNat z_18) fun M_19 => some (rV, M_19)) else none))) else none)))))) else none)) else none)
def tale_readNewThing  (M : MM) : OR :=
  (bif cmpB .lt (M 29 1) 10 then (sM (mU M 29 1 ((M 29 1) + 1)) fun M_1 => (bI (tape_needNumber 0 15 M_1) fun z_5 M_4 => (bif inB (M 29 1) 10 then (sM (mU M_4 35 ((M 29 1)).toNat z_5) fun M_6 => (bV (tape_needWord 2 M_6) fun M_9 => (bI (tape_needNumber 1 99 M_9) fun z_13 M_12 => (bif inB (M 29 1) 10 then (sM (mU M_12 36 ((M 29 1)).toNat z_13) fun M_14 => some (rI (M 29 1), M_14)) else none)))) else none))) else (bV (tape_failAt (M 1 3) M) fun M_17 => some (rI (-1), M_17)))
def tale_readLock (v1 : Int) (M : MM) : OR :=
  (bV (tape_needWord 8 M) fun M_2 => (bI (tape_needNumber 0 15 M_2) fun z_6 M_5 => (bif inB v1 17 then (sM (mU M_5 30 (v1).toNat z_6) fun M_7 => (bI (tape_needNumber 0 15 M_7) fun z_11 M_10 => (bif inB v1 17 then (sM (mU M_10 31 (v1).toNat z_11) fun M_12 => some (rV, M_12)) else none))) else none)))
def tale_readPlaceNumber  (M : MM) : OR :=
  (bI (tape_needNumber 0 ((M 29 0) - 1) M) fun z_3 M_2 => some (rI z_3, M_2))
def tape_endText  (M : MM) : OR :=
  (bI (tape_isAtEnd  M) fun z_3 M_2 => (bif cmpB .ne z_3 0 then (sM (mU M_2 1 1 0) fun M_4 => (bif cmpB .ne (M_4 1 2) (-1) then some (rI 0, M_4) else some (rI 1, M_4))) else (bV (tape_fail  M_2) fun M_7 => (sM (mU M_7 1 1 0) fun M_9 => (bif cmpB .ne (M_9 1 2) (-1) then some (rI 0, M_9) else some (rI 1, M_9))))))
def gh_place (v1 : Int) (v2 : Int) (M : MM) : OR :=
  (bV (gh_checkPlace v1 M) fun M_2 => (bI (land_hasKeeper 3 v1 M_2) fun z_6 M_5 => (bif cmpB .eq v2 0 then (bif cmpB .eq z_6 0 then some (rI 0, M_5) else some (rI 1, M_5)) else (bif cmpB .eq v2 1 then (bif cmpB .eq z_6 0 then some (rI 0, M_5) else (bif inB v1 17 then some (rI (M_5 4 (v1).toNat), M_5) else none)) else (bif cmpB .eq v2 2 then (bif cmpB .eq z_6 0 then some (rI 0, M_5) else (bif inB v1 17 then some (rI (M_5 5 (v1).toNat), M_5) else none)) else (bif cmpB .eq v2 3 then (bif cmpB .eq z_6 0 then some (rI (-1), M_5) else (bif inB v1 10 then some (rI (M_5 6 (v1).toNat), M_5) else none)) else (bif cmpB .eq v2 4 then (bif cmpB .eq z_6 0 then some (rI (-1), M_5) else (bif inB v1 10 then some (rI (M_5 7 (v1).toNat), M_5) else none)) else (bif cmpB .eq v2 5 then (bI (gh_bit (M_5 3 6) v1 M_5) fun z_15 M_14 => some (rI z_15, M_14)) else (bif cmpB .eq v2 6 then (bI (gh_giftStillHad v1 M_5) fun z_19 M_18 => some (rI z_19, M_18)) else (bif cmpB .eq v2 7 then (bI (gh_bit (M_5 23 6) v1 M_5) fun z_23 M_22 => some (rI z_23, M_22)) else (bif cmpB .eq v2 8 then (bI (jny_lying 23 v1 M_5) fun z_27 M_26 => some (rI z_27, M_26)) else thx 16 M_5)))))))))))
def gh_rule (v1 : Int) (v2 : Int) (M : MM) : OR :=
  (bV (gh_checkRoad v1 M) fun M_2 => (bI (land_otherEnd 3 v1 (M_2 23 0) M_2) fun z_6 M_5 => (bif cmpB .ne z_6 (-1) then (bif cmpB .lt v2 0 then thx 16 M_5 else (bif cmpB .le v2 2 then (bif cmpB .ne v2 2 then (bV (stps_judge v1 (M_5 23 0) (M_5 23 3) (M_5 23 1) M_5) fun M_8 => (bif cmpB .ne v2 0 then some (rI (M_8 157 1), M_8) else (bif cmpB .eq (M_8 157 0) 0 then some (rI 0, M_8) else some (rI 1, M_8)))) else (bI (gh_arrivalNow v1 M_5) fun z_12 M_11 => (bif cmpB .ne z_12 (-1) then some (rI 1, M_11) else some (rI 0, M_11)))) else thx 16 M_5)) else thx 14 M_5)))
def gh_go (v1 : Int) (M : MM) : OR :=
  (bV (gh_checkRoad v1 M) fun M_2 => (bI (gh_arrivalNow v1 M_2) fun z_6 M_5 => (bif cmpB .ne z_6 (-1) then (bV (gh_rememberAct  M_5) fun M_8 => (bI (land_otherEnd 3 v1 (M_8 23 0) M_8) fun z_12 M_11 => (sM (mU M_11 23 0 z_12) fun M_13 => (sM (mU M_13 23 1 z_6) fun M_15 => (sM (mU M_15 23 2 v1) fun M_17 => some (rI z_6, M_17)))))) else thx 14 M_5)))
def gh_pay (v1 : Int) (M : MM) : OR :=
  (bV (gh_checkThing v1 M) fun M_2 => (bI (land_isHeldBy 3 (M_2 23 0) (M_2 23 6) M_2) fun z_6 M_5 => (bif cmpB .eq z_6 0 then thx 14 M_5 else (bI (gh_bit (M_5 23 3) v1 M_5) fun z_9 M_8 => (bif cmpB .eq z_9 0 then thx 14 M_8 else (bif inB v1 10 then (bI (land_opens 3 (M_8 9 (v1).toNat) (M_2 23 0) M_8) fun z_12 M_11 => (bif cmpB .ne z_12 0 then (bV (gh_rememberAct  M_11) fun M_14 => (bV (jny_letPass 23 (M_2 23 0) v1 M_14) fun M_17 => (bI (gh_bit (M_17 3 6) (M_2 23 0) M_17) fun z_21 M_20 => (bif cmpB .ne z_21 1 then (bif inB (M_2 23 0) 10 then (bif cmpB .eq (M_20 8 ((M_2 23 0)).toNat) (-1) then some (rI (M_20 8 ((M_2 23 0)).toNat), M_20) else (bV (jny_receive 23 (M_20 8 ((M_2 23 0)).toNat) M_20) fun M_23 => some (rI (M_20 8 ((M_2 23 0)).toNat), M_23))) else none) else (bV (jny_lose 23 v1 M_20) fun M_26 => (bif inB (M_2 23 0) 10 then (bif cmpB .eq (M_26 8 ((M_2 23 0)).toNat) (-1) then some (rI (M_26 8 ((M_2 23 0)).toNat), M_26) else (bV (jny_receive 23 (M_26 8 ((M_2 23 0)).toNat) M_26) fun M_29 => some (rI (M_26 8 ((M_2 23 0)).toNat), M_29))) else none)))))) else thx 14 M_11)) else none))))))
def gh_take (v1 : Int) (M : MM) : OR :=
  (bV (gh_checkThing v1 M) fun M_2 => (bI (jny_lying 23 (M_2 23 0) M_2) fun z_6 M_5 => (bI (gh_bit z_6 v1 M_5) fun z_9 M_8 => (bif cmpB .eq z_9 0 then thx 14 M_8 else (bI (gh_hasRoom (M_8 23 3) M_8) fun z_12 M_11 => (bif cmpB .ne z_12 0 then (bV (gh_rememberAct  M_11) fun M_14 => (sM (mU M_14 23 3 (iOr (M_14 23 3) (iShl 1 v1))) fun M_16 => (bI (jdk_bitCount (M_16 23 3) M_16) fun z_20 M_19 => some (rI z_20, M_19)))) else thx 14 M_11))))))
def gh_stands_L32  (v1 v2 : Int) (K1 : Int → MM → OR) : Nat → Int → Int → MM → OR
  | 0, _, _, _ => none
  | n + 1, v3, v4, M => (bif cmpB .ge v4 17 then (K1 v3 M) else (bI (gh_isShut v4 M) fun z_9 M_8 => (bif cmpB .eq z_9 0 then (gh_stands_L32 v1 v2 K1 n v3 (v4 + 1) M_8) else (bif inB v1 10 then (bI (land_opens 3 (M_8 9 (v1).toNat) v4 M_8) fun z_12 M_11 => (bif cmpB .eq z_12 0 then (gh_stands_L32 v1 v2 K1 n v3 (v4 + 1) M_11) else (bI (land_openers 3 v4 M_11) fun z_15 M_14 => (gh_stands_L32 v1 v2 K1 n (iAnd v3 z_15) (v4 + 1) M_14)))) else none))))
def gh_stands (v1 : Int) (v2 : Int) (M : MM) : OR :=
  (bV (gh_checkThing v1 M) fun M_2 => (bI (land_allThings 3 M_2) fun z_6 M_5 => (gh_stands_L32 v1 v2 (fun v3_16 M_17 => (bif cmpB .eq v2 0 then some (rI v3_16, M_17) else (bI (land_cheapest 3 v3_16 M_17) fun z_22 M_21 => some (rI z_22, M_21)))) FU (iAnd (iAnd z_6 (iXor (M_5 23 4) (-1))) (iXor (iShl 1 v1) (-1))) 0 M_5)))
def gh_needed_L4  (K1 : Int → MM → OR) : Nat → Int → Int → MM → OR
  | 0, _, _, _ => none
  | n + 1, v1, v2, M => (bif cmpB .ge v2 17 then (K1 v1 M) else (bI (gh_isShut v2 M) fun z_3 M_2 => (bif cmpB .eq z_3 0 then (gh_needed_L4  K1 n v1 (v2 + 1) M_2) else (bI (land_openers 3 v2 M_2) fun z_6 M_5 => (bif cmpB .ne (iAnd z_6 (iXor (M_5 23 4) (-1))) 0 then (gh_needed_L4  K1 n v1 (v2 + 1) M_5) else (gh_needed_L4  K1 n (iOr v1 (iShl 1 v2)) (v2 + 1) M_5))))))
def gh_needed  (M : MM) : OR :=
  (gh_needed_L4  (fun v1_7 M_8 => some (rI v1_7, M_8)) FU 0 0 M)
def gh_gate (v1 : Int) (M : MM) : OR :=
  (bI (ridd_gateAnswer v1 M) fun z_3 M_2 => some (rI z_3, M_2))
def gh_plates (v1 : Int) (M : MM) : OR :=
  (bI (tape_useUpPairs 24 16 M) fun z_3 M_2 => (bif cmpB .eq z_3 (-1) then thx 13 M_2 else (bif cmpB .le z_3 7 then (bif cmpB .lt v1 (-1) then thx 13 M_2 else (bif cmpB .lt v1 z_3 then (bI (ridd_platesAnswer z_3 v1 M_2) fun z_6 M_5 => some (rI z_6, M_5)) else thx 13 M_2)) else thx 13 M_2)))
def drv_place (v1 : Int) (v2 : Int) (M : MM) : OR :=
  (bH (gh_place v1 v2 M) (fun z_3 M_2 => (bif inB 0 1 then (sM (mU M_2 181 0 (w32 z_3)) fun M_4 => some (rI 0, M_4)) else none)) fun c_6 M_2 => (bif Nat.beq c_6 15 then some (rI 1, M_2) else (bif Nat.beq c_6 16 then some (rI 2, M_2) else none)))
def drv_rule (v1 : Int) (v2 : Int) (M : MM) : OR :=
  (bH (gh_rule v1 v2 M) (fun z_3 M_2 => (bif inB 0 1 then (sM (mU M_2 181 0 (w32 z_3)) fun M_4 => some (rI 0, M_4)) else none)) fun c_6 M_2 => (bif Nat.beq c_6 15 then some (rI 1, M_2) else (bif Nat.beq c_6 14 then some (rI 2, M_2) else (bif Nat.beq c_6 16 then some (rI 3, M_2) else none))))
def drv_go (v1 : Int) (M : MM) : OR :=
  (bH (gh_go v1 M) (fun z_3 M_2 => (bif inB 0 1 then (sM (mU M_2 181 0 (w32 z_3)) fun M_4 => some (rI 0, M_4)) else none)) fun c_6 M_2 => (bif Nat.beq c_6 15 then some (rI 1, M_2) else (bif Nat.beq c_6 14 then some (rI 2, M_2) else none)))
def drv_pay (v1 : Int) (M : MM) : OR :=
  (bH (gh_pay v1 M) (fun z_3 M_2 => (bif inB 0 1 then (sM (mU M_2 181 0 (w32 z_3)) fun M_4 => some (rI 0, M_4)) else none)) fun c_6 M_2 => (bif Nat.beq c_6 15 then some (rI 1, M_2) else (bif Nat.beq c_6 14 then some (rI 2, M_2) else none)))
def drv_take (v1 : Int) (M : MM) : OR :=
  (bH (gh_take v1 M) (fun z_3 M_2 => (bif inB 0 1 then (sM (mU M_2 181 0 (w32 z_3)) fun M_4 => some (rI 0, M_4)) else none)) fun c_6 M_2 => (bif Nat.beq c_6 15 then some (rI 1, M_2) else (bif Nat.beq c_6 14 then some (rI 2, M_2) else none)))
def drv_stands (v1 : Int) (v2 : Int) (M : MM) : OR :=
  (bH (gh_stands v1 v2 M) (fun z_3 M_2 => (bif inB 0 1 then (sM (mU M_2 181 0 (w32 z_3)) fun M_4 => some (rI 0, M_4)) else none)) fun c_6 M_2 => (bif Nat.beq c_6 15 then some (rI 1, M_2) else none))
def drv_plates (v1 : Int) (M : MM) : OR :=
  (bH (gh_plates v1 M) (fun z_3 M_2 => (bif inB 0 1 then (sM (mU M_2 181 0 (w32 z_3)) fun M_4 => some (rI 0, M_4)) else none)) fun c_6 M_2 => (bif Nat.beq c_6 13 then some (rI 1, M_2) else none))
def lawr_readChoice_L7 (R : Int → MM → OR)  (v1 : Int) (K1 : MM → OR) : Nat → Int → MM → OR
  | 0, _, _ => none
  | n + 1, v2, M => (bif cmpB .ge v2 400 then (K1  M) else (bI (tape_tookWord 31 M) fun z_6 M_5 => (bif cmpB .eq z_6 0 then (K1  M_5) else (bV (lawr_readAll R v1 M_5) fun M_8 => (bV (law_append 43 1010 M_8) fun M_11 => (lawr_readChoice_L7 R v1 K1 n (v2 + 1) M_11))))))
def lawr_readChoice (R : Int → MM → OR) (v1 : Int) (M : MM) : OR :=
  (bV (lawr_readAll R v1 M) fun M_2 => (lawr_readChoice_L7 R v1 (fun M_13 => some (rV, M_13)) FU 0 M_2))
def lawr_readSum_L6  (K1 : MM → OR) : Nat → Int → MM → OR
  | 0, _, _ => none
  | n + 1, v1, M => (bif cmpB .ge v1 400 then (K1  M) else (bI (tape_tookMark 43 M) fun z_6 M_5 => (bif cmpB .eq z_6 0 then (K1  M_5) else (bV (lawr_readPart  M_5) fun M_8 => (bV (law_append 43 1011 M_8) fun M_11 => (lawr_readSum_L6  K1 n (v1 + 1) M_11))))))
def lawr_readSum  (M : MM) : OR :=
  (bV (lawr_readPart  M) fun M_2 => (lawr_readSum_L6  (fun M_13 => some (rV, M_13)) FU 0 M_2))
def srch_addPays_L37 (q : Nat) (v1 v3 : Int) (K1 : MM → OR) : Nat → Int → MM → OR
  | 0, _, _ => none
  | n + 1, v4, M => (bif cmpB .ge v4 10 then (K1  M) else (bI (gh_bit v3 v4 M) fun z_7 M_6 => (bif cmpB .ne z_7 1 then (srch_addPays_L37 q v1 v3 K1 n (v4 + 1) M_6) else (bJ (srch_paid q v1 v4 M_6) fun z_11 M_10 => (bV (srch_add q z_11 M_10) fun M_14 => (srch_addPays_L37 q v1 v3 K1 n (v4 + 1) M_14))))))
def srch_addPays (q : Nat) (v1 : Int) (M : MM) : OR :=
  (bI (land_isHeldBy 3 (M 1000 11) (M 1000 13) M) fun z_3 M_2 => (bif cmpB .ne z_3 0 then (bif inB (M_2 1000 11) 17 then (srch_addPays_L37 q v1 (iAnd (M_2 1000 12) (M_2 1003 ((M_2 1000 11)).toNat)) (fun M_17 => some (rV, M_17)) FU 0 M_2) else none) else some (rV, M_2)))
def tale_readThing  (M : MM) : OR :=
  (bI (tale_readNewThing  M) fun z_3 M_2 => (bV (tape_needWord 3 M_2) fun M_5 => (bI (tale_readPlaceNumber  M_5) fun z_9 M_8 => (bif cmpB .eq z_3 (-1) then some (rV, M_8) else (bif inB z_3 10 then (sM (mU M_8 50 (z_3).toNat z_9) fun M_10 => some (rV, M_10)) else none)))))
def tale_readRoad_J64   (v1 v2 v3 : Int) (M : MM) : OR :=
  (bV (tape_needWord 5 M) fun M_8 => (bif inB (2 * v1) 32 then (sM (mU M_8 37 ((2 * v1)).toNat v2) fun M_10 => (bif inB ((2 * v1) + 1) 32 then (sM (mU M_10 37 (((2 * v1) + 1)).toNat v3) fun M_12 => (bI (tape_needNumber 1 9 M_12) fun z_16 M_15 => (bif inB v1 16 then (sM (mU M_15 38 (v1).toNat z_16) fun M_17 => (bI (tape_tookWord 6 M_17) fun z_21 M_20 => (bif cmpB .eq z_21 0 then (bif inB v1 16 then (sM (mU M_20 39 (v1).toNat 100) fun M_22 => (sM (mU M_22 29 2 ((M_22 29 2) + 1)) fun M_24 => some (rV, M_24))) else none) else (bI (tape_needNumber 1 100 M_20) fun z_28 M_27 => (bif inB v1 16 then (sM (mU M_27 39 (v1).toNat z_28) fun M_29 => (sM (mU M_29 29 2 ((M_29 29 2) + 1)) fun M_31 => some (rV, M_31))) else none))))) else none))) else none)) else none))
def tale_readRoad  (M : MM) : OR :=
  (bif cmpB .lt (M 29 2) 16 then (bI (tale_readPlaceNumber  M) fun z_3 M_2 => (bI (tale_readPlaceNumber  M_2) fun z_6 M_5 => (bif cmpB .ne z_3 z_6 then (tale_readRoad_J64   (M 29 2) z_3 z_6 M_5) else (bV (tape_failAt (M_5 1 3) M_5) fun M_34 => (tale_readRoad_J64   (M 29 2) z_3 z_6 M_34))))) else (bV (tape_failAt (M 1 3) M) fun M_37 => some (rV, M_37)))
def tale_readKeeper_J87   (v1 s0 : Int) (M : MM) : OR :=
  (bif cmpB .eq s0 (-1) then (bif inB v1 10 then (sM (mU M 34 (v1).toNat s0) fun M_19 => (sM (mU M_19 29 5 (iOr (M_19 29 5) (iShl 1 v1))) fun M_21 => some (rV, M_21))) else none) else (bif inB s0 10 then (sM (mU M 50 (s0).toNat v1) fun M_23 => (sM (mU M_23 49 5 (iOr (M_23 49 5) (iShl 1 s0))) fun M_25 => (bif inB v1 10 then (sM (mU M_25 34 (v1).toNat s0) fun M_27 => (sM (mU M_27 29 5 (iOr (M_27 29 5) (iShl 1 v1))) fun M_29 => some (rV, M_29))) else none))) else none))
def tale_readKeeper_J67   (v1 : Int) (M : MM) : OR :=
  (bI (tape_tookWord 12 M) fun z_18 M_17 => (bif cmpB .eq z_18 0 then (tale_readKeeper_J87   v1 (-1) M_17) else (bI (tale_readNewThing  M_17) fun z_33 M_32 => (tale_readKeeper_J87   v1 z_33 M_32))))
def tale_readKeeper_J30   (v1 : Int) (M : MM) : OR :=
  (bV (tale_readLock v1 M) fun M_8 => (bV (tale_readMeal v1 M_8) fun M_11 => (bI (tape_tookWord 11 M_11) fun z_15 M_14 => (bif cmpB .eq z_15 0 then (tale_readKeeper_J67   v1 M_14) else (sM (mU M_14 29 6 (iOr (M_14 29 6) (iShl 1 v1))) fun M_34 => (tale_readKeeper_J67   v1 M_34))))))
def tale_readKeeper  (M : MM) : OR :=
  (bI (tale_readPlaceNumber  M) fun z_3 M_2 => (bI (land_hasKeeper 29 z_3 M_2) fun z_6 M_5 => (bif cmpB .eq z_6 0 then (tale_readKeeper_J30   z_3 M_5) else (bV (tape_failAt (M_5 1 3) M_5) fun M_37 => (tale_readKeeper_J30   z_3 M_37)))))
def tale_readBrother  (M : MM) : OR :=
  (bif cmpB .lt (M 29 3) 7 then (bI (tale_readPlaceNumber  M) fun z_3 M_2 => (bif inB (M 29 3) 7 then (sM (mU M_2 40 ((M 29 3)).toNat z_3) fun M_4 => (bV (tale_readLock (10 + (M 29 3)) M_4) fun M_7 => (bV (tape_needWord 14 M_7) fun M_10 => (bI (tape_needNumber 0 99 M_10) fun z_14 M_13 => (bif inB (M 29 3) 7 then (sM (mU M_13 41 ((M 29 3)).toNat z_14) fun M_15 => (bV (tape_needWord 15 M_15) fun M_18 => (bI (tape_needNumber 0 999 M_18) fun z_22 M_21 => (bif inB (M 29 3) 7 then (sM (mU M_21 42 ((M 29 3)).toNat z_22) fun M_23 => (sM (mU M_23 29 3 ((M_23 29 3) + 1)) fun M_25 => some (rV, M_25))) else none)))) else none))))) else none)) else (bV (tape_failAt (M 1 3) M) fun M_28 => some (rV, M_28)))
def lawr_readAtom (R : Int → MM → OR) (v1 : Int) (M : MM) : OR :=
  (bI (tape_tookWord 21 M) fun z_3 M_2 => (bif cmpB .eq z_3 0 then (bI (tape_tookMark 40 M_2) fun z_6 M_5 => (bif cmpB .eq z_6 0 then (bI (tape_tookWord 22 M_5) fun z_9 M_8 => (bif cmpB .eq z_9 0 then (bV (lawr_readSum  M_8) fun M_11 => (bI (lawr_readComparison  M_11) fun z_15 M_14 => (bV (lawr_readSum  M_14) fun M_17 => (bV (law_append 43 z_15 M_17) fun M_20 => some (rV, M_20))))) else (bV (law_append 43 1007 M_8) fun M_23 => some (rV, M_23)))) else (bI (lawr_isTooDeep v1 M_5) fun z_27 M_26 => (bif cmpB .eq z_27 0 then (bV (lawr_readChoice R (v1 + 1) M_26) fun M_29 => (bI (tape_tookMark 41 M_29) fun z_33 M_32 => (bif cmpB .ne z_33 0 then some (rV, M_32) else (bV (tape_fail  M_32) fun M_35 => some (rV, M_35))))) else some (rV, M_26))))) else (bI (lawr_isTooDeep v1 M_2) fun z_39 M_38 => (bif cmpB .eq z_39 0 then (bV (R (v1 + 1) M_38) fun M_41 => (bV (law_append 43 1008 M_41) fun M_44 => some (rV, M_44))) else some (rV, M_38)))))
def lawr_readAtom_F : Nat → Int → MM → OR
  | 0, _, _ => none
  | n + 1, u0, M => lawr_readAtom (lawr_readAtom_F n) u0 M
def srch_run_L28 (q : Nat) (K1 : MM → OR) : Nat → Int → MM → OR
  | 0, _, _ => none
  | n + 1, v2, M => (bif cmpB .ge v2 6000 then (K1  M) else (bif cmpB .ge v2 (M 1000 3) then (K1  M) else (bif cmpB .ne (M 1000 4) 0 then (K1  M) else (bif inB v2 6000 then (bI (srch_hoursOf (M 1001 (v2).toNat) M) fun z_18 M_17 => (sM (mU M_17 1000 10 z_18) fun M_20 => (bI (srch_placeOf (M 1001 (v2).toNat) M_20) fun z_25 M_24 => (sM (mU M_24 1000 11 z_25) fun M_27 => (sM (mU M_27 1000 12 (iAnd (M 1001 (v2).toNat) 1023)) fun M_30 => (bI (srch_passedOf (M 1001 (v2).toNat) M_30) fun z_35 M_34 => (sM (mU M_34 1000 13 z_35) fun M_37 => (bV (srch_addRoads q (M 1001 (v2).toNat) M_37) fun M_41 => (bV (srch_addWait q (M 1001 (v2).toNat) M_41) fun M_45 => (bV (srch_addPays q (M 1001 (v2).toNat) M_45) fun M_49 => (bV (srch_addTakes q (M 1001 (v2).toNat) M_49) fun M_53 => (bV (srch_addFrees q (M 1001 (v2).toNat) M_53) fun M_57 => (srch_run_L28 q K1 n (v2 + 1) M_57))))))))))))) else none))))
def srch_run (q : Nat) (v1 : Int) (M : MM) : OR :=
  (bif cmpB .ne (M 1000 5) v1 then (sM (mU M 1000 5 v1) fun M_1 => (bV (srch_prepare q M_1) fun M_5 => (bJ (srch_firstState q M_5) fun z_10 M_9 => (bV (srch_add q z_10 M_9) fun M_13 => (srch_run_L28 q (fun M_61 => some (rV, M_61)) FU 0 M_13))))) else some (rV, M))
def tale_readLine  (M : MM) : OR :=
  (bI (tape_tookWord 0 M) fun z_3 M_2 => (bif cmpB .eq z_3 0 then (bI (tape_tookWord 1 M_2) fun z_6 M_5 => (bif cmpB .eq z_6 0 then (bI (tape_tookWord 4 M_5) fun z_9 M_8 => (bif cmpB .eq z_9 0 then (bI (tape_tookWord 7 M_8) fun z_12 M_11 => (bif cmpB .eq z_12 0 then (bI (tape_tookWord 13 M_11) fun z_15 M_14 => (bif cmpB .eq z_15 0 then (bV (tape_fail  M_14) fun M_17 => some (rV, M_17)) else (bV (tale_readBrother  M_14) fun M_20 => some (rV, M_20)))) else (bV (tale_readKeeper  M_11) fun M_23 => some (rV, M_23)))) else (bV (tale_readRoad  M_8) fun M_26 => some (rV, M_26)))) else (bV (tale_readThing  M_5) fun M_29 => some (rV, M_29)))) else (bV (tale_readPlace  M_2) fun M_32 => some (rV, M_32))))
def lawr_readLine_J66   (v1 : Int) (M : MM) : OR :=
  (bI (tape_tookWord 20 M) fun z_12 M_11 => (bif cmpB .eq z_12 0 then (bif inB v1 12 then (sM (mU M_11 45 (v1).toNat (M_11 43 4)) fun M_13 => (sM (mU M_13 43 0 (v1 + 1)) fun M_15 => some (rV, M_15))) else none) else (bV (lawr_readChoice (lawr_readAtom_F 12) 0 M_11) fun M_18 => (bif inB v1 12 then (sM (mU M_18 45 (v1).toNat (M_18 43 4)) fun M_20 => (sM (mU M_20 43 0 (v1 + 1)) fun M_22 => some (rV, M_22))) else none))))
def lawr_readLine (v1 : Int) (M : MM) : OR :=
  (bI (tape_tookWord 18 M) fun z_3 M_2 => (bif cmpB .eq z_3 0 then (bI (tape_tookWord 19 M_2) fun z_6 M_5 => (bif cmpB .eq z_6 0 then (bV (tape_fail  M_5) fun M_8 => (lawr_readLine_J66   v1 M_8)) else (bI (tape_needNumber 0 9 M_5) fun z_26 M_25 => (bif inB v1 12 then (sM (mU M_25 44 (v1).toNat z_26) fun M_27 => (lawr_readLine_J66   v1 M_27)) else none)))) else (bif inB v1 12 then (sM (mU M_2 44 (v1).toNat (-1)) fun M_29 => (lawr_readLine_J66   v1 M_29)) else none)))
def tale_readText_L25  (K1 : MM → OR) : Nat → Int → Int → MM → OR
  | 0, _, _, _ => none
  | n + 1, v1, v2, M => (bif cmpB .gt v2 14 then (K1  M) else (bif cmpB .eq v1 0 then (K1  M) else (bif cmpB .ne v2 14 then (bV (tale_readLine  M) fun M_8 => (bI (tape_tookMark 59 M_8) fun z_12 M_11 => (tale_readText_L25  K1 n z_12 (v2 + 1) M_11))) else (bV (tape_fail  M) fun M_14 => (bI (tape_tookMark 59 M_14) fun z_18 M_17 => (tale_readText_L25  K1 n z_18 (v2 + 1) M_17))))))
def tale_readText_J22   (s0 : Int) (M : MM) : OR :=
  (tale_readText_L25  (fun M_19 => (bI (tape_endText  M_19) fun z_24 M_23 => (bif zo z_24 then some (rI z_24, M_23) else none))) FU s0 0 M)
def tale_readText  (M : MM) : OR :=
  (bV (tape_startText  M) fun M_2 => (bI (tape_isAtEnd  M_2) fun z_6 M_5 => (bif cmpB .ne z_6 0 then (tale_readText_J22   0 M_5) else (tale_readText_J22   1 M_5))))
def gh_tale  (M : MM) : OR :=
  (bV (land_copyFrom 29 3 M) fun M_2 => (bV (jny_copyFrom 49 23 M_2) fun M_5 => (bI (tale_readText  M_5) fun z_9 M_8 => (bif cmpB .ne z_9 0 then (bif cmpB .lt (M_8 3 4) 12 then (sM (mU M_8 29 4 ((M_8 29 4) + 1)) fun M_10 => (bV (land_copyFrom 3 29 M_10) fun M_13 => (bV (jny_copyFrom 23 49 M_13) fun M_16 => (bV (gh_forgetActs  M_16) fun M_19 => some (rI (M_19 3 4), M_19))))) else thx 17 M_8) else thx 13 M_8))))
def drv_tale  (M : MM) : OR :=
  (bH (gh_tale  M) (fun z_3 M_2 => (bif inB 0 1 then (sM (mU M_2 181 0 (w32 z_3)) fun M_4 => some (rI 0, M_4)) else none)) fun c_6 M_2 => (bif Nat.beq c_6 13 then some (rI 1, M_2) else (bif Nat.beq c_6 17 then some (rI 2, M_2) else none)))
def lawr_readText_L41  (K1 : MM → OR) : Nat → Int → Int → MM → OR
  | 0, _, _, _ => none
  | n + 1, v1, v2, M => (bif cmpB .gt v2 12 then (K1  M) else (bif cmpB .eq v1 0 then (K1  M) else (bif cmpB .ne v2 12 then (bV (lawr_readLine v2 M) fun M_12 => (bI (tape_tookMark 59 M_12) fun z_16 M_15 => (lawr_readText_L41  K1 n z_16 (v2 + 1) M_15))) else (bV (tape_fail  M) fun M_18 => (bI (tape_tookMark 59 M_18) fun z_22 M_21 => (lawr_readText_L41  K1 n z_22 (v2 + 1) M_21))))))
def lawr_readText_J38   (s0 : Int) (M : MM) : OR :=
  (lawr_readText_L41  (fun M_23 => (bI (tape_endText  M_23) fun z_28 M_27 => (bif zo z_28 then some (rI z_28, M_27) else none))) FU s0 0 M)
def lawr_readText  (M : MM) : OR :=
  (bV (tape_startText  M) fun M_2 => (sM (mU M_2 43 0 0) fun M_4 => (sM (mU M_4 43 4 0) fun M_6 => (bI (tape_isAtEnd  M_6) fun z_10 M_9 => (bif cmpB .ne z_10 0 then (lawr_readText_J38   0 M_9) else (lawr_readText_J38   1 M_9))))))
def gh_law  (M : MM) : OR :=
  (bI (lawr_readText  M) fun z_3 M_2 => (bif cmpB .ne z_3 0 then (bV (law_copyFrom 17 43 M_2) fun M_5 => (bV (gh_forgetActs  M_5) fun M_8 => some (rI (M_8 17 0), M_8))) else thx 13 M_2))
def drv_law  (M : MM) : OR :=
  (bH (gh_law  M) (fun z_3 M_2 => (bif inB 0 1 then (sM (mU M_2 181 0 (w32 z_3)) fun M_4 => some (rI 0, M_4)) else none)) fun c_6 M_2 => (bif Nat.beq c_6 13 then some (rI 1, M_2) else none))
def srchI (M : MM) : MM := fun a => if a = 0 then up (M 0) 17 (182 + M 999 0) else if a = 1000 then (fun k => if k = 5 then -1 else 0) else if a = 1001 ∨ a = 1002 ∨ a = 1003 ∨ a = 1004 then (fun _ => 0) else M a
def srchN (M : MM) : MM := if M 0 17 = 0 then srchI M else M
def gh_searchFromNow (M : MM) : OR := if 0 < (srchN M) 0 17 then bV (srch_run ((srchN M) 0 17).toNat ((srchN M) 0 18) (srchN M)) (fun M1 => some (.inl (some (vR (M1 0 17).toNat)), M1)) else none
def gh_soonest (v1 : Int) (M : MM) : OR :=
  (bV (gh_checkAnyPlace  M) fun M_2 => (bS (gh_searchFromNow  M_2) fun q_7 M_5 => (bif cmpB .eq (M_5 1000 4) 0 then (bI (land_allBrothers 3 M_5) fun z_11 M_10 => (bI (srch_fewestHoursToFree q_7 (iAnd v1 z_11) M_10) fun z_15 M_14 => some (rI z_15, M_14))) else some (rI (-3), M_5))))
def gh_reached (v1 : Int) (M : MM) : OR :=
  (bV (gh_checkPlace v1 M) fun M_2 => (bS (gh_searchFromNow  M_2) fun q_7 M_5 => (bif cmpB .eq (M_5 1000 4) 0 then (bI (srch_fewestHoursTo q_7 v1 M_5) fun z_11 M_10 => some (rI z_11, M_10)) else some (rI (-3), M_5))))
def gh_spared (v1 : Int) (M : MM) : OR :=
  (bV (gh_checkAnyPlace  M) fun M_2 => (bS (gh_searchFromNow  M_2) fun q_7 M_5 => (bif cmpB .eq (M_5 1000 4) 0 then (bI (land_allBrothers 3 M_5) fun z_11 M_10 => (bI (srch_leastLossToFree q_7 (iAnd v1 z_11) M_10) fun z_15 M_14 => some (rI z_15, M_14))) else some (rI (-3), M_5))))
def gh_locked (v1 : Int) (M : MM) : OR :=
  (bV (gh_checkAnyPlace  M) fun M_2 => (bS (gh_searchFromNow  M_2) fun q_7 M_5 => (bif cmpB .eq (M_5 1000 4) 0 then (bif cmpB .eq v1 0 then (bI (srch_everPassed q_7 M_5) fun z_11 M_10 => some (rI (iAnd (M_5 3 5) (iXor z_11 (-1))), M_10)) else some (rI (M_5 1000 3), M_5)) else some (rI (-3), M_5))))
def drv_soonest (v1 : Int) (M : MM) : OR :=
  (bH (gh_soonest v1 M) (fun z_3 M_2 => (bif inB 0 1 then (sM (mU M_2 181 0 (w32 z_3)) fun M_4 => some (rI 0, M_4)) else none)) fun c_6 M_2 => (bif Nat.beq c_6 14 then some (rI 1, M_2) else none))
def drv_reached (v1 : Int) (M : MM) : OR :=
  (bH (gh_reached v1 M) (fun z_3 M_2 => (bif inB 0 1 then (sM (mU M_2 181 0 (w32 z_3)) fun M_4 => some (rI 0, M_4)) else none)) fun c_6 M_2 => (bif Nat.beq c_6 15 then some (rI 1, M_2) else none))
def drv_spared (v1 : Int) (M : MM) : OR :=
  (bH (gh_spared v1 M) (fun z_3 M_2 => (bif inB 0 1 then (sM (mU M_2 181 0 (w32 z_3)) fun M_4 => some (rI 0, M_4)) else none)) fun c_6 M_2 => (bif Nat.beq c_6 14 then some (rI 1, M_2) else none))
def drv_locked (v1 : Int) (M : MM) : OR :=
  (bH (gh_locked v1 M) (fun z_3 M_2 => (bif inB 0 1 then (sM (mU M_2 181 0 (w32 z_3)) fun M_4 => some (rI 0, M_4)) else none)) fun c_6 M_2 => (bif Nat.beq c_6 14 then some (rI 1, M_2) else none))
