/-! ===== SIGN as a call ===== -/
theorem ok_sign {v1 : Int} (h1 : I32 v1) : OpOK (drv_sign v1) (mo_sign v1) := by
  refine op_read fun k M hk hI => ?_
  obtain ⟨-, hW, hL, hJ, -⟩ := hI
  have c0 := hW.1.1
  have c3 := hW.1.2.2.2.1
  have hB := hW.2.2.2.2.1
  by_cases h : 0 ≤ v1 ∧ v1 < M 166 3
  · obtain ⟨b, rfl⟩ : ∃ n : Nat, v1 = (n : Int) := ⟨v1.toNat, by omega⟩
    have hb0 := (hB b (by omega) h.2).1
    have sc := sg_cls (b := b) (W := (rwG M 159 (farF (M 166) (oBp (M 166) b))) 160) hW.1 hW.2.2.2.1 hB h.2
    refine ⟨0, sgV (M 166) b, by decide, fun _ => by omega, fun hx => ?_, fun N hN e _ => ?_⟩
    · generalize hA : rwG M 159 (farF (M 166) (oBp (M 166) b)) = A at sc
      have a9 : ∀ W, (rwG A 160 W) 999 = M 999 := fun W => by rw [rwG_ne (by decide), ← hA, rwG_ne (by decide)]
      have cA : ∀ W, Core M (rwG A 160 W) := fun W => by
        rw [← hA]
        exact Core_mV (Core_mV Core.rfl' (by unfold coreA; omega) (by decide) (by decide) (by decide)) (by unfold coreA; omega) (by decide) (by decide) (by decide)
      have a159 : ∀ j, j < 10 → A 159 j = farF (M 166) (oBp (M 166) b) j := fun j hj => by rw [← hA, rwG_at hj]
      have lA : LandR 3 (M 166) A := by rw [← hA]; exact LandR_fr (fun j hj => rwG_ne (by omega)) hL
      refine ansC_ret (E := fun c_6 M_2 => (bif Nat.beq c_6 15 then some (rI 1, M_2) else none)) (M1 := rwG A 160 (fo (sgG (M 166) b) (M 166 3).toNat 0 ((fun i => decide (i < (M 166 0).toNat)), A 160)).2) hx ?_ (by omega) (cA _) (a9 _)
      have hl := (hL.2.2.2.2.2.2 b (by omega) h.2).1
      have ep : M 14 ((b : Int)).toNat = ((oBp (M 166) b : Nat) : Int) := by
        rw [show M 14 ((b : Int)).toNat = oB (M 166) (b : Int) 0 from hl]; unfold oBp; omega
      have em : iShl 1 (A 3 0) - 1 = ((bset 10 (fun i => decide (i < (M 166 0).toNat)) : Nat) : Int) := by
        rw [lA.1.1, show M 166 0 = (((M 166 0).toNat : Nat) : Int) by omega]
        exact sg_mask (by omega)
      have run := sign_near (K := fun v2_10 M_11 => (ways_placeFoundFirst_J83 v2_10 M_11)) hW.1 hW.2.2.2.1 hB lA a159 h.2 (fun i => decide (i < (M 166 0).toNat)) (A 160)
      rw [rwG_self, ← em] at run
      unfold gh_sign ways_placeFoundFirst
      rw [checkBrother_t hW.1 hL.1.2.2.2.1 h.1 h.2, bq_in (by omega) (by omega), ep, measure_b (Or.inl rfl) hW.1 hW.2.2.2.1 hL (by unfold oBp; omega), hA, show ways_placeFoundFirst_L31 (b : Int) _ FU _ 0 A = _ from run]
      unfold ways_placeFoundFirst_J83
      rw [sign_min (D := farF (M 166) (oBp (M 166) b)) hW.1 (by rw [rwG_ne (by decide)]; exact lA.1.1) (fun j hj => ⟨by rw [rwG_ne (by decide)]; exact a159 j hj, by have := @cF_J (M 166) (oBp (M 166) b) j; omega⟩), sc.1, bI_I]
    · have hWN := hN.2.1
      have hBN := hWN.2.2.2.2.1
      rw [← e] at h c0 c3 hb0 sc ⊢
      obtain ⟨P, eP⟩ : ∃ P : Nat, N 166 0 = (P : Int) := ⟨(N 166 0).toNat, by omega⟩
      have ep : oB (N 166) (b : Int) 0 = ((oBp (N 166) b : Nat) : Int) := by unfold oBp; omega
      have copy : ∀ (K : MM → OR) (Y : MM) (D : Nat → Int), (∀ j, j < 10 → Y 175 j = D j) → mo_sign_L32 (b : Int) K FU 0 Y = K (flM Y 176 0 10 D) := by
        intro K Y D hD
        have := fl_run0 (L := fun F i M => mo_sign_L32 (b : Int) K F i M) (K := K) (M := Y) (a := 176) (o := 0) (N := 10) (F := FU) (f := D) (FU_gt (by decide)) (fun m i hi => ?_) (fun m => ?_)
        · exact this
        · have g5 : flM Y 176 0 (0 + i) D 175 i = D i := by rw [flM_ne (by decide)]; exact hD i hi
          rw [mo_sign_L32, bq_ge (by omega) (by decide), if_neg (by omega), bq_in (by omega) (by omega), bq_in (by omega) (by omega), sM_eq, Int.toNat_natCast, g5, Nat.zero_add]
        · rw [mo_sign_L32, bq_ge (by decide) (by decide), if_pos (by decide)]
      have ones : ∀ (K : MM → OR) (Y : MM), Y 166 0 = (P : Int) → mo_sign_L58 (b : Int) K FU 0 Y = K (flM Y 177 0 P (fun j => b2 ((fun _ => true) j))) := by
        intro K Y hY
        have := fl_run0 (L := fun F i M => mo_sign_L58 (b : Int) K F i M) (K := K) (M := Y) (a := 177) (o := 0) (N := P) (F := FU) (f := fun j => b2 ((fun _ => true) j)) (FU_gt (by omega)) (fun m i hi => ?_) (fun m => ?_)
        · rw [Nat.zero_add] at this
          exact this
        · have g0 : flM Y 177 0 (0 + i) (fun j => b2 ((fun _ => true) j)) 166 0 = (P : Int) := by rw [flM_ne (by decide)]; exact hY
          rw [mo_sign_L58, mo_places_b, g0, bq_ge (by omega) (by omega), if_neg (by omega), bq_in (by omega) (by omega), sM_eq, Int.toNat_natCast, sg_z1, Nat.zero_add]; rfl
        · have g0 : flM Y 177 0 (0 + P) (fun j => b2 ((fun _ => true) j)) 166 0 = (P : Int) := by rw [flM_ne (by decide)]; exact hY
          rw [mo_sign_L58, mo_places_b, g0, bq_ge (by omega) (by omega), if_pos (by omega)]
      generalize hY : flM (rwG (mU N 165 0 0) 175 (dF (N 166) (oBp (N 166) b))) 176 0 10 (dF (N 166) (oBp (N 166) b)) = Y
      have y6 : Y 166 = N 166 := by rw [← hY, flM_ne (by decide), rwG_ne (by decide)]; rfl
      have y76 : ∀ j, j < 10 → Y 176 j = dF (N 166) (oBp (N 166) b) j := fun j hj => by rw [← hY, flM_ap, if_pos ⟨Nat.zero_le _, hj⟩, Nat.sub_zero]
      have all := sign_all (K := fun M_48 => (mo_sign_L168 (fun v2_58 M_59 => some (rI v2_58, M_59)) FU (-1) 0 M_48)) (N0 := Y) (P := P) hWN.1 hWN.2.2.2.1 hBN y6 eP y76 h.2 (fun _ => true) (flM Y 177 0 P (fun j => b2 ((fun _ => true) j)) 175)
      rw [show sgN Y P (fun _ => true) (flM Y 177 0 P (fun j => b2 ((fun _ => true) j)) 175) = flM Y 177 0 P (fun j => b2 ((fun _ => true) j)) from rwG_self] at all
      generalize hZ : fo (sgR (N 166) b) (N 166 3).toNat 0 ((fun _ => true), flM Y 177 0 P (fun j => b2 ((fun _ => true) j)) 175) = Z at all
      have z1 : Z.1 = sgS (fun i => dF (N 166) (oBp (N 166) i)) b (N 166 3).toNat (fun _ => true) := by rw [← hZ, sgR_1]
      have mn := signR_min (M := sgN Y P Z.1 Z.2) (S := Z.1) (D := dF (N 166) (oBp (N 166) b)) (K := fun v2_58 M_59 => some (rI v2_58, M_59)) (P := P) (by omega) (by rw [sgN_ne (by decide) (by decide), y6]; exact eP) (fun j hj => sgN_77 hj) (fun j hj => ⟨by rw [sgN_ne (by decide) (by decide)]; exact y76 j hj, by have := @dF_J (N 166) (oBp (N 166) b) j; omega⟩)
      have cY : Core (mU N 165 0 0) (sgN Y P Z.1 Z.2) := by
        rw [← hY]
        exact Core_mV (Core_mV (Core_mV (Core_mV Core.rfl' (by unfold coreA; omega) (by decide) (by decide) (by decide)) (by unfold coreA; omega) (by decide) (by decide) (by decide)) (by unfold coreA; omega) (by decide) (by decide) (by decide)) (by unfold coreA; omega) (by decide) (by decide) (by decide)
      have yO : ∀ a, a ≠ 175 → a ≠ 176 → a ≠ 177 → sgN Y P Z.1 Z.2 a = (mU N 165 0 0) a := fun a g5 g6 g7 => by rw [sgN_ne g5 g7, ← hY, flM_ne g6, rwG_ne g5]
      have fin : fo (sgM Z.1 (dF (N 166) (oBp (N 166) b))) P 0 (-1) = sgV (N 166) b := by
        unfold sgV
        rw [z1, eP, Int.toNat_natCast]
      refine ansR_ret (N2 := sgN Y P Z.1 Z.2) ?_ (by rw [yO 165 (by decide) (by decide) (by decide)]; rfl) (Core_t0.trans' cY) (by rw [yO _ (by decide) (by decide) (by decide)]; rfl) (by rw [yO _ (by decide) (by decide) (by decide)]; rfl)
      unfold mo_sign
      rw [sM_eq, mo_noBrother_b (M := mU N 165 0 0) hWN.1 h1, decide_eq_true (show 0 ≤ (b : Int) ∧ (b : Int) < (mU N 165 0 0) 166 3 from h), Bool.not_true, show b2 false = 0 from rfl, mo_throwsIf_0, bq_eq (by decide) (by decide), if_pos rfl, mo_ofBrother_b (by omega) (by omega) (by decide) (by decide), show oB ((mU N 165 0 0) 166) (b : Int) 0 = ((oBp (N 166) b : Nat) : Int) from ep, lays_b (M := mU N 165 0 0) (w := N 166) rfl hWN.1 hWN.2.2.2.1 (by omega), copy _ _ (dF (N 166) (oBp (N 166) b)) (fun j hj => rwG_at hj), hY, ones _ _ (by rw [y6]; exact eP), show mo_sign_L81 (b : Int) _ FU 0 _ = _ from all, show mo_sign_L168 _ FU (-1) 0 _ = _ from mn, fin]
  · refine ⟨1, 0, by decide, fun g => absurd g (by decide), fun hx => ?_, fun N hN e _ => ?_⟩
    · refine ansC_thr (E := fun c_6 M_2 => (bif Nat.beq c_6 15 then some (rI 1, M_2) else none)) (c := 15) (M1 := M) hx ?_ rfl (by decide) Core.rfl' rfl
      unfold gh_sign
      rw [checkBrother_f hW.1 hL.1.2.2.2.1 hx h1 h]
    · have hWN := hN.2.1
      rw [← e] at h
      refine ansR_thr (z' := 0) ?_ (by decide)
      unfold mo_sign
      rw [sM_eq, mo_noBrother_b (M := mU N 165 0 0) hWN.1 h1, decide_eq_false (show ¬ (0 ≤ v1 ∧ v1 < (mU N 165 0 0) 166 3) from h), Bool.not_false, show b2 true = 1 from rfl, mo_throwsIf_1, bq_eq (by decide) (by decide), if_neg (by decide)]
