/-! ===== THE CLASS SPREADS A STATE: roads, waiting, brothers ===== -/
def SpC (w : Nat → Int) (s : Nat) (M : MM) : Prop := LandR 3 w M ∧ JnyR 23 w M ∧ LawR 17 w M ∧ (M 1000 10 = (fd s 0 5 : Nat) ∧ M 1000 11 = (fd s 5 4 : Nat) ∧ M 1000 12 = ((sCar w s : Nat) : Int) ∧ M 1000 13 = ((fd s 34 10 : Nat) : Int)) ∧ (∀ l : Nat, l < 17 → M 1003 l = ((bset 10 (opB 3 M (l : Int)) : Nat) : Int)) ∧ ∀ p : Nat, p < 10 → M 1004 p = ((bset 10 (lyB w (p : Int)) : Nat) : Int)
theorem opB_fr {M M' : MM} {l : Int} (h : ∀ j, j < 14 → M' (3 + j) = M (3 + j)) : opB 3 M' l = opB 3 M l := by
  have h0 := h 0 (by decide)
  have h1 := h 1 (by decide)
  have h2 := h 2 (by decide)
  have h6 := h 6 (by decide)
  unfold opB
  rw [show M' 3 = M 3 from h0, show M' (3 + 6) = M (3 + 6) from h6, show M' (3 + 1) = M (3 + 1) from h1, show M' (3 + 2) = M (3 + 2) from h2]
theorem SpC_fr {w : Nat → Int} {s : Nat} {M M' : MM} (h : FrC M M') (H : SpC w s M) : SpC w s M' := by
  obtain ⟨a1, a2, a3, a4, a5, a6⟩ := H
  have hl : ∀ j, j < 14 → M' (3 + j) = M (3 + j) := fun j hj => h.1 _ (by omega) (by omega) (by omega) (by omega) (by omega) (by omega)
  refine ⟨LandR_fr hl a1, JnyR_fr (fun j hj => h.1 _ (by omega) (by omega) (by omega) (by omega) (by omega) (by omega)) a2, LawR_fr (fun j hj => h.1 _ (by omega) (by omega) (by omega) (by omega) (by omega) (by omega)) a3, ?_, fun l hl' => ?_, fun p hp => ?_⟩
  · rw [h.2 10 (by decide) (by decide), h.2 11 (by decide) (by decide), h.2 12 (by decide) (by decide), h.2 13 (by decide) (by decide)]
    exact a4
  · rw [h.1 1003 (by decide) (by decide) (by decide) (by decide) (by decide) (by decide), opB_fr hl]
    exact a5 l hl'
  · rw [h.1 1004 (by decide) (by decide) (by decide) (by decide) (by decide) (by decide)]
    exact a6 p hp
def SC (w : Nat → Int) (s : Nat) (M0 M : MM) (n : Nat) (f : Nat → Nat) (o : Bool) : Prop := CSt w M n f o ∧ SpC w s M ∧ FrC M0 M
theorem SC_js {w : Nat → Int} {s n : Nat} {M0 M M' : MM} {f : Nat → Nat} {o : Bool} (h : Js M M') (H : SC w s M0 M n f o) : SC w s M0 M' n f o := ⟨CSt_js h H.1, SpC_fr (FrC_js h) H.2.1, H.2.2.tr (FrC_js h)⟩
theorem SC_add {w : Nat → Int} {s n q m : Nat} {M0 M : MM} {f : Nat → Nat} {o : Bool} {x : Nat} (hW : WF m w) (hz : w 0 ≠ 0) (H : SC w s M0 M n f o) (hx : Rch w x) : ∃ M' n' f' o', (∀ k : MM → OR, bV (srch_add q ((cpk w x : Nat) : Int) M) k = k M') ∧ SC w s M0 M' n' f' o' ∧ Ext n f o n' f' o' ∧ Cov n' f' o' x := by
  obtain ⟨M', n', f', o', a1, a2, a3, a4, a5⟩ := add_c (q := q) hW hz H.1 hx
  exact ⟨M', n', f', o', a1, ⟨a2, SpC_fr a3 H.2.1, H.2.2.tr a3⟩, a4, a5⟩
theorem code_go {c q r h : Nat} (hc : c < 2 ^ 61) (hq : q < 16) (hr : r < 32) (hh : h < 32) : lOr (lOr (lOr (lAnd (c : Int) 140737488355327) (lShl (q : Int) 47)) (lShl (r : Int) 51)) (lShl (h : Int) 56) = (((c &&& (2 ^ 47 - 1)) ||| q <<< 47 ||| r <<< 51 ||| h <<< 56 : Nat) : Int) := by
  have q1 : q <<< 47 < 2 ^ 61 := sh61 (n := 4) hq (by decide)
  have r1 : r <<< 51 < 2 ^ 61 := sh61 (n := 5) hr (by decide)
  have h1 : h <<< 56 < 2 ^ 61 := sh61 (n := 5) hh (by decide)
  have a1 : c &&& (2 ^ 47 - 1) < 2 ^ 61 := and61 hc
  have b : ∀ x : Nat, x < 2 ^ 61 → x < 9223372036854775808 := fun x hx => Nat.lt_trans hx (by decide)
  have k47 : (2 : Nat) ^ 47 - 1 = 140737488355327 := by decide
  have e0' : lAnd (c : Int) ((140737488355327 : Nat) : Int) = ((c &&& 140737488355327 : Nat) : Int) := nj_and (b c hc) (by decide)
  have e0 : lAnd (c : Int) 140737488355327 = ((c &&& (2 ^ 47 - 1) : Nat) : Int) := by
    rw [k47, ← e0']
    congr 1
  have e1 : lShl (q : Int) 47 = ((q <<< 47 : Nat) : Int) := nj_shl (k := 47) (by decide) (b _ q1)
  have e2 : lShl (r : Int) 51 = ((r <<< 51 : Nat) : Int) := nj_shl (k := 51) (by decide) (b _ r1)
  have e3 : lShl (h : Int) 56 = ((h <<< 56 : Nat) : Int) := nj_shl (k := 56) (by decide) (b _ h1)
  have o1 : c &&& (2 ^ 47 - 1) ||| q <<< 47 < 2 ^ 61 := Nat.or_lt_two_pow a1 q1
  have o2 : c &&& (2 ^ 47 - 1) ||| q <<< 47 ||| r <<< 51 < 2 ^ 61 := Nat.or_lt_two_pow o1 r1
  rw [e0, e1, e2, e3, nj_or (b _ a1) (b _ q1), nj_or (b _ o1) (b _ r1), nj_or (b _ o2) (b _ h1)]
section Spr
variable {w : Nat → Int} {s n m q : Nat} {f : Nat → Nat} {o : Bool} {M0 M : MM}
theorem roads_c (hW : WF m w) (hm : m ≤ 1000) (hz : w 0 ≠ 0) (hs : Rch w s) (H : SC w s M0 M n f o) : ∃ M' n' f' o', (∀ k : MM → OR, bV (srch_addRoads q ((cpk w s : Nat) : Int) M) k = k M') ∧ SC w s M0 M' n' f' o' ∧ Ext n f o n' f' o' ∧ ∀ (r u : Nat), (r : Int) < w 2 → sGo w s r = some u → Cov n' f' o' u := by
  have hG := GS_rch hW hz hs
  have hW' := hW
  obtain ⟨hC, hP, hT, hR, hB, -, -⟩ := hW'
  have c2 := hC.2.2.1
  have c0 := hC.1
  have c6 := hC.2.2.2.2.2.2.1
  have ev3 : lAnd (lUshr ((cpk w s : Nat) : Int) 51) 31 - 1 = ((fd s 9 5 : Nat) : Int) - 1 := by
    have e1 : lUshr ((cpk w s : Nat) : Int) 51 = ((cpk w s >>> 51 : Nat) : Int) := nj_ushr (k := 51) cpk_63 (by decide)
    have e2 : lAnd ((cpk w s >>> 51 : Nat) : Int) 31 = ((cpk w s >>> 51 &&& 31 : Nat) : Int) := nj_and (b := 31) (Nat.lt_of_le_of_lt (by rw [Nat.shiftRight_eq_div_pow]; exact Nat.div_le_self _ _) cpk_63) (by decide)
    have e3 : cpk w s >>> 51 &&& 31 = fd (cpk w s) 51 5 := and_fd (b := 5)
    rw [e1, e2, e3, ck_r]
  have loop := walk_loop (S := SC w s M0) (L := fun F _ i M => srch_addRoads_L15 q ((cpk w s : Nat) : Int) (((fd s 9 5 : Nat) : Int) - 1) (fun M_13 => some (rV, M_13)) F i M) (K := fun _ M => some (rV, M)) (N := (w 2).toNat) (G := fun r u => sGo w s (r : Int) = some u) (fun F r M n f o hr HS => ?_) (fun F M n f o HS => ?_) (w 2).toNat FU 0 M n f o (by omega) (FU_gt (by omega)) H
  · obtain ⟨M', n', f', o', b1, b2, b3, b4⟩ := loop
    refine ⟨M', n', f', o', fun k => ?_, b2, b3, fun r u hr hu => b4 r u (Nat.zero_le _) (by omega) hu⟩
    unfold srch_addRoads
    rw [ev3, show srch_addRoads_L15 q _ _ _ FU 0 M = _ from b1, bV_V]
  · have HS' := HS
    obtain ⟨-, ⟨sL, sJ, sW, ⟨s10, s11, s12, s13⟩, -, -⟩, -⟩ := HS'
    have hr2 : (r : Int) < w 2 := by omega
    have sb := sHr_b (n := m) hR (LawR_ok sW) (show (0 : Int) ≤ r by omega) hr2 s
    obtain ⟨M1, a1, a2⟩ := arrival_v (s := s) (r := (r : Int)) hC hP hT hR hm sL sW hG.2.1.1 (by omega) hr2
    have H1 := SC_js a2 HS
    have e23 : M1 23 1 = w 6 := by rw [a2 23 (by decide) (by decide) (by decide)]; exact sJ.1.2.1
    have e11 : M1 1000 11 = (fd s 5 4 : Nat) := by rw [a2 1000 (by decide) (by decide) (by decide)]; exact s11
    have hfd := fd_lt s 0 5
    have call : stps_arrival (r : Int) (M 1000 11) (((fd s 9 5 : Nat) : Int) - 1) (M 1000 13) (M 1000 12) ((M 23 1) + (M 1000 10)) M = some (rI (if sCan w s r = true then sTm w s + sHr w s r else -1), M1) := by
      rw [s10, s11, s12, s13, sJ.1.2.1]
      exact a1
    show ∃ M' n' f' o', srch_addRoads_L15 q _ _ _ (F + 1) (r : Int) M = srch_addRoads_L15 q _ _ _ F ((r : Int) + 1) M' ∧ _
    rw [srch_addRoads_L15, sL.1.2.2.1, bq_ge (by omega) (by omega), if_neg (by omega), bq_ge (by omega) (by decide), if_neg (by omega), call, bI_I]
    have hst : sTm w s = w 6 + (fd s 0 5 : Nat) := rfl
    have c32 : (2 : Nat) ^ 5 = 32 := rfl
    by_cases hc : sCan w s r = true
    · rw [if_pos hc, bq_eq (by omega) (by decide), if_neg (by omega), e23, bq_gt (by omega) (by decide)]
      by_cases h30 : (30 : Int) < sTm w s + sHr w s r - w 6
      · rw [if_pos h30]
        refine ⟨M1, n, f, o, rfl, H1, Ext.rf, fun u hu => ?_⟩
        have hu' : sGo w s (r : Int) = some u := hu
        unfold sGo at hu'
        rw [if_neg (fun g => by have := g.2; omega)] at hu'
        exact absurd hu' (by simp)
      · have hgo : sGo w s (r : Int) = some (wt (wt (wt s 0 5 ((fd s 0 5 : Int) + sHr w s r).toNat) 5 4 (oE w r (sPl s)).toNat) 9 5 ((r : Int) + 1).toNat) := by
          unfold sGo
          rw [if_pos ⟨hc, by omega⟩]
        have hsc := hc
        unfold sCan at hsc
        rw [Bool.and_eq_true] at hsc
        have hoe := of_decide_eq_true hsc.1
        have hrr := hR (r : Int) (by omega) hr2
        have hoe2 : oE w (r : Int) (sPl s) < w 0 := by
          unfold oE
          split
          · exact hrr.2.1.2
          · split
            · exact hrr.1.2
            · omega
        have hx := Rch_suc hs (Or.inr (Or.inl ⟨r, hr2, hgo⟩))
        obtain ⟨M2, n2, f2, o2, b1, b2, b3, b4⟩ := SC_add (q := q) hW hz H1 hx
        rw [ck_go (by omega) (by omega) (by omega)] at b1
        rw [if_neg h30, e11, show ((fd s 5 4 : Nat) : Int) = sPl s from rfl, land_otherEnd_b (H1.2.1.1) hC hR (by omega) hr2 (by have := hG.2.1.1; unfold sPl; omega), e23]
        have e1 : w32 (oE w (r : Int) (sPl s)) = (((oE w (r : Int) (sPl s)).toNat : Nat) : Int) := by rw [nw (by omega)]; omega
        have e2 : w32 ((r : Int) + 1) = ((((r : Int) + 1).toNat : Nat) : Int) := by rw [nw (by omega)]; omega
        have e3 : w32 (sTm w s + sHr w s r - w 6) = ((((fd s 0 5 : Int) + sHr w s r).toNat : Nat) : Int) := by rw [nw (by omega)]; omega
        rw [e1, e2, e3, code_go cpk_lt (by omega) (by omega) (by omega), b1]
        refine ⟨M2, n2, f2, o2, rfl, b2, b3, fun u hu => ?_⟩
        have hu' : sGo w s (r : Int) = some u := hu
        rw [hgo] at hu'
        obtain rfl := Option.some.inj hu'
        exact b4
    · rw [if_neg hc, bq_eq (by decide) (by decide), if_pos rfl]
      refine ⟨M1, n, f, o, rfl, H1, Ext.rf, fun u hu => ?_⟩
      have hu' : sGo w s (r : Int) = some u := hu
      unfold sGo at hu'
      rw [if_neg (fun g => hc g.1)] at hu'
      exact absurd hu' (by simp)
  · have sL := HS.2.1.1
    show srch_addRoads_L15 q _ _ _ (F + 1) (((w 2).toNat : Nat) : Int) M = _
    rw [srch_addRoads_L15, sL.1.2.2.1, bq_ge (by omega) (by omega), if_pos (by omega)]
theorem wait_c (hW : WF m w) (hm : m ≤ 1000) (hz : w 0 ≠ 0) (hs : Rch w s) (H : SC w s M0 M n f o) : ∃ M' n' f' o', (∀ k : MM → OR, bV (srch_addWait q ((cpk w s : Nat) : Int) M) k = k M') ∧ SC w s M0 M' n' f' o' ∧ Ext n f o n' f' o' ∧ ∀ u, fd s 0 5 ≠ 30 → sWt w s = some u → Cov n' f' o' u := by
  have hG := GS_rch hW hz hs
  have hW' := hW
  obtain ⟨hC, hP, hT, hR, hB, -, -⟩ := hW'
  have c6 := hC.2.2.2.2.2.2.1
  have H' := H
  obtain ⟨-, ⟨sL, sJ, sW, ⟨s10, s11, s12, s13⟩, -, -⟩, -⟩ := H'
  have hfd := fd_lt s 0 5
  have c32 : (2 : Nat) ^ 5 = 32 := rfl
  have h30 := hG.2.1.2.2
  have hp : sPl s < w 0 := hG.2.1.1
  unfold srch_addWait
  rw [s10, bq_ge (by omega) (by decide)]
  by_cases h : (30 : Int) ≤ (fd s 0 5 : Nat)
  · rw [if_pos h]
    exact ⟨M, n, f, o, fun k => bV_V, H, Ext.rf, fun u hne => absurd (by omega) hne⟩
  · have es : sTm w s + 1 = w 6 + ((fd s 0 5 : Nat) : Int) + 1 := rfl
    rw [if_neg h, s11, sJ.1.2.1, ← es, show ((fd s 5 4 : Nat) : Int) = sPl s from rfl, land_eatsAt_b hC hP sL (by unfold sPl; omega) hp (by omega) (by omega), bz_ne0]
    cases he : eatB w (sPl s) (sTm w s + 1) with
    | true =>
      rw [cn_t]
      refine ⟨M, n, f, o, fun k => bV_V, H, Ext.rf, fun u _ hu => ?_⟩
      unfold sWt at hu
      rw [if_pos he] at hu
      exact absurd hu (by simp)
    | false =>
      have hwt : sWt w s = some (s + 1) := by
        unfold sWt
        rw [if_neg (by rw [he]; decide)]
      obtain ⟨M2, n2, f2, o2, b1, b2, b3, b4⟩ := SC_add (q := q) hW hz H (Rch_suc hs (Or.inl ⟨by omega, hwt⟩))
      rw [ck_wait (by omega)] at b1
      rw [cn_f, show ((cpk w s : Nat) : Int) + 72057594037927936 = ((cpk w s + 72057594037927936 : Nat) : Int) by omega]
      refine ⟨M2, n2, f2, o2, fun k => by rw [b1, bV_V], b2, b3, fun u _ hu => ?_⟩
      rw [hwt] at hu
      obtain rfl := Option.some.inj hu
      exact b4
theorem frees_c (hW : WF m w) (hz : w 0 ≠ 0) (hs : Rch w s) (H : SC w s M0 M n f o) : ∃ M' n' f' o', (∀ k : MM → OR, bV (srch_addFrees q ((cpk w s : Nat) : Int) M) k = k M') ∧ SC w s M0 M' n' f' o' ∧ Ext n f o n' f' o' ∧ ∀ (b u : Nat), (b : Int) < w 3 → sFr w s b = some u → Cov n' f' o' u := by
  have hG := GS_rch hW hz hs
  have hW' := hW
  obtain ⟨hC, hP, hT, hR, hB, -, -⟩ := hW'
  have c3 := hC.2.2.2.1
  have c1 := hC.2.1
  have c0 := hC.1
  have e44 : fd s 44 7 < 128 := fd_lt s 44 7
  have evf : iAnd (lUshr ((cpk w s : Nat) : Int) 40) 127 = ((fd s 44 7 : Nat) : Int) := by
    have e1 : lUshr ((cpk w s : Nat) : Int) 40 = ((cpk w s >>> 40 : Nat) : Int) := nj_ushr (k := 40) cpk_63 (by decide)
    have e2 : iAnd ((cpk w s >>> 40 : Nat) : Int) 127 = ((cpk w s >>> 40 &&& 127 : Nat) : Int) := nu_andb (m := 127) (by decide)
    have e3 : cpk w s >>> 40 &&& 127 = fd (cpk w s) 40 7 := and_fd (b := 7)
    rw [e1, e2, e3, ck_f]
  have loop := walk_loop (S := SC w s M0) (L := fun F _ i M => srch_addFrees_L8 q ((cpk w s : Nat) : Int) ((fd s 44 7 : Nat) : Int) (fun M_13 => some (rV, M_13)) F i M) (K := fun _ M => some (rV, M)) (N := (w 3).toNat) (G := fun b u => sFr w s b = some u) (fun F b M n f o hb HS => ?_) (fun F M n f o HS => ?_) (w 3).toNat FU 0 M n f o (by omega) (FU_gt (by omega)) H
  · obtain ⟨M', n', f', o', b1, b2, b3, b4⟩ := loop
    refine ⟨M', n', f', o', fun k => ?_, b2, b3, fun r u hr hu => b4 r u (Nat.zero_le _) (by omega) hu⟩
    unfold srch_addFrees srch_freedOf
    rw [evf, bI_I, show srch_addFrees_L8 q _ _ _ FU 0 M = _ from b1, bV_V]
  · have HS' := HS
    obtain ⟨-, ⟨sL, sJ, sW, ⟨s10, s11, s12, s13⟩, s1003, -⟩, -⟩ := HS'
    have hb3 : (b : Int) < w 3 := by omega
    have hbb := hB (b : Int) (by omega) hb3
    have l5 := (sL.2.2.2.2.2.2 (b : Int) (by omega) hb3).1
    rw [Int.toNat_natCast] at l5
    have hp16 := fd_lt s 5 4
    have c16 : (2 : Nat) ^ 4 = 16 := rfl
    show ∃ M' n' f' o', srch_addFrees_L8 q _ _ _ (F + 1) (b : Int) M = srch_addFrees_L8 q _ _ _ F ((b : Int) + 1) M' ∧ _
    have skip : (∀ u, sFr w s b = some u → False) → srch_addFrees_L8 q ((cpk w s : Nat) : Int) ((fd s 44 7 : Nat) : Int) (fun M_13 => some (rV, M_13)) (F + 1) (b : Int) M = srch_addFrees_L8 q ((cpk w s : Nat) : Int) ((fd s 44 7 : Nat) : Int) (fun M_13 => some (rV, M_13)) F ((b : Int) + 1) M → ∃ M' n' f' o', srch_addFrees_L8 q ((cpk w s : Nat) : Int) ((fd s 44 7 : Nat) : Int) (fun M_13 => some (rV, M_13)) (F + 1) (b : Int) M = srch_addFrees_L8 q ((cpk w s : Nat) : Int) ((fd s 44 7 : Nat) : Int) (fun M_13 => some (rV, M_13)) F ((b : Int) + 1) M' ∧ SC w s M0 M' n' f' o' ∧ Ext n f o n' f' o' ∧ ∀ u, sFr w s b = some u → Cov n' f' o' u := fun h1 h2 => ⟨M, n, f, o, h2, HS, Ext.rf, fun u hu => (h1 u hu).elim⟩
    have step : srch_addFrees_L8 q ((cpk w s : Nat) : Int) ((fd s 44 7 : Nat) : Int) (fun M_13 => some (rV, M_13)) (F + 1) (b : Int) M = (if oB w (b : Int) 0 = sPl s then (bif (fd s 44 7).testBit b then srch_addFrees_L8 q ((cpk w s : Nat) : Int) ((fd s 44 7 : Nat) : Int) (fun M_13 => some (rV, M_13)) F ((b : Int) + 1) M else (if bset (w 1).toNat (sCf w s b) = 0 then srch_addFrees_L8 q ((cpk w s : Nat) : Int) ((fd s 44 7 : Nat) : Int) (fun M_13 => some (rV, M_13)) F ((b : Int) + 1) M else (bV (srch_add q (((cpk w s ||| 2 ^ (40 + b) : Nat)) : Int) M) fun M_10 => srch_addFrees_L8 q ((cpk w s : Nat) : Int) ((fd s 44 7 : Nat) : Int) (fun M_13 => some (rV, M_13)) F ((b : Int) + 1) M_10))) else srch_addFrees_L8 q ((cpk w s : Nat) : Int) ((fd s 44 7 : Nat) : Int) (fun M_13 => some (rV, M_13)) F ((b : Int) + 1) M) := by
      have eop : iAnd (M 1003 (10 + b)) (M 1000 12) = ((bset 10 (fun i => opB 3 M ((10 + b : Nat) : Int) i && tsB s 2 i) : Nat) : Int) := by
        rw [s1003 (10 + b) (by omega), s12, ← GS_sCar hG c1.2, and_bs (by decide)]
      have esf : bset 10 (fun i => opB 3 M ((10 + b : Nat) : Int) i && tsB s 2 i) = bset (w 1).toNat (sCf w s b) := by
        rw [← bset_ext (f := sCf w s b) (show (w 1).toNat ≤ 10 by omega)]
        apply bset_cg
        intro i hi
        rw [show ((10 + b : Nat) : Int) = 10 + (b : Int) by omega, opB_r sL hB (by omega) hb3 i]
        unfold sCf tsB
        by_cases h1 : (i : Int) < w 1
        · rw [decide_eq_true h1, decide_eq_true (show i < (w 1).toNat by omega), Bool.true_and, Bool.true_and, Bool.and_comm]
        · rw [decide_eq_false h1, decide_eq_false (show ¬ i < (w 1).toNat by omega), Bool.false_and, Bool.false_and, Bool.false_and]
      have b31 := bset_31 (f := sCf w s b) (show (w 1).toNat ≤ 31 by omega)
      have eor : lOr ((cpk w s : Nat) : Int) (lShl 1 (40 + (b : Int))) = ((cpk w s ||| 2 ^ (40 + b) : Nat) : Int) := by
        rw [show 40 + (b : Int) = ((40 + b : Nat) : Int) by omega, nj_one (by omega), nj_or cpk_63 (Nat.lt_trans (Nat.pow_lt_pow_right (by decide) (show 40 + b < 62 by omega)) (by decide))]
      rw [srch_addFrees_L8, sL.1.2.2.2.1, bq_ge (by omega) (by omega), if_neg (by omega), bq_ge (by omega) (by decide), if_neg (by omega), bq_in (by omega) (by omega), Int.toNat_natCast, show M 14 b = _ from l5, s11, show ((fd s 5 4 : Nat) : Int) = sPl s from rfl, bq_ne (by omega) (by unfold sPl; omega), gh_bit_b (by omega) (by omega), bz_ne0, bq_in (by omega) (by omega), show (10 + (b : Int)).toNat = 10 + b by omega, eop, esf, bq_eq (by omega) (by decide), eor]
      congr 1
      congr 1
      by_cases h0 : bset (w 1).toNat (sCf w s b) = 0
      · rw [if_pos h0, if_pos (by omega)]
      · rw [if_neg h0, if_neg (by omega)]
    by_cases g1 : oB w (b : Int) 0 = sPl s
    · rw [if_pos g1] at step
      cases g2 : (fd s 44 7).testBit b with
      | true =>
        rw [g2, cn_t] at step
        refine skip (fun u hu => ?_) step
        unfold sFr at hu
        rw [if_neg (fun g => by rw [g2] at g; exact absurd g.2.2 (by decide))] at hu
        exact absurd hu (by simp)
      | false =>
        rw [g2, cn_f] at step
        by_cases g3 : bset (w 1).toNat (sCf w s b) = 0
        · rw [if_pos g3] at step
          refine skip (fun u hu => ?_) step
          unfold sFr at hu
          rw [if_neg (fun g => g.1 g3)] at hu
          exact absurd hu (by simp)
        · have hfr : sFr w s b = some (wt s (44 + b) 1 1) := by
            unfold sFr
            rw [if_pos ⟨g3, g1, g2⟩]
          obtain ⟨M2, n2, f2, o2, b1, b2, b3, b4⟩ := SC_add (q := q) hW hz HS (Rch_suc hs (Or.inr (Or.inr (Or.inr ⟨b, hb3, hfr⟩))))
          rw [ck_free (by omega)] at b1
          rw [if_neg g3, b1] at step
          refine ⟨M2, n2, f2, o2, step, b2, b3, fun u hu => ?_⟩
          have hu' : sFr w s b = some u := hu
          rw [hfr] at hu'
          obtain rfl := Option.some.inj hu'
          exact b4
    · rw [if_neg g1] at step
      refine skip (fun u hu => ?_) step
      unfold sFr at hu
      rw [if_neg (fun g => g1 g.2.1)] at hu
      exact absurd hu (by simp)
  · have sL := HS.2.1.1
    show srch_addFrees_L8 q _ _ _ (F + 1) (((w 3).toNat : Nat) : Int) M = _
    rw [srch_addFrees_L8, sL.1.2.2.2.1, bq_ge (by omega) (by omega), if_pos (by omega)]
end Spr
