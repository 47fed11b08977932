/-! ===== SUREST ===== -/
def fS (w : Nat → Int) (r : Nat) (x : Int) : Int := if x * (oR w (r : Int) 3).toNat / 100 ≤ x then x * (oR w (r : Int) 3).toNat / 100 else x
theorem fS_d (w : Nat → Int) (r : Nat) (x : Int) : fS w r x ≤ x := by unfold fS; split <;> omega
theorem fS_m (w : Nat → Int) (r : Nat) (x y : Int) (h : x ≤ y) : fS w r x ≤ fS w r y := by
  have h1 : x * ((oR w (r : Int) 3).toNat : Int) ≤ y * ((oR w (r : Int) 3).toNat : Int) := Int.mul_le_mul_of_nonneg_right h (by omega)
  unfold fS
  split <;> split <;> omega
def v0S (a p : Nat) : Int := if p = a then 1000000 else 0
def SB (V : Nat → Int) : Prop := ∀ p, 0 ≤ V p ∧ V p ≤ 1000000
theorem fS_v {w : Nat → Int} {r : Nat} {x : Int} (hx : 0 ≤ x ∧ x ≤ 1000000) (hc : 1 ≤ oR w (r : Int) 3 ∧ oR w (r : Int) 3 ≤ 100) : (w32 (x * oR w (r : Int) 3)).tdiv (w32 100) = fS w r x ∧ (w64 ((w32 x) * (w32 (oR w (r : Int) 3)))).tdiv (w64 100) = fS w r x ∧ (0 ≤ fS w r x ∧ fS w r x ≤ 1000000) := by
  have e : (((oR w (r : Int) 3).toNat : Nat) : Int) = oR w (r : Int) 3 := by omega
  have h1 : x * oR w (r : Int) 3 ≤ x * 100 := Int.mul_le_mul_of_nonneg_left hc.2 hx.1
  have h0 : 0 ≤ x * oR w (r : Int) 3 := Int.mul_nonneg hx.1 (by omega)
  have hf : fS w r x = x * oR w (r : Int) 3 / 100 := by
    unfold fS
    rw [e]
    exact if_pos (by omega)
  rw [hf]
  clear hf e
  generalize oR w (r : Int) 3 = c at *
  have n64 : ∀ z : Int, -9223372036854775808 ≤ z → z < 9223372036854775808 → w64 z = z := fun z a b => Int64.toInt_ofInt_of_le a (by omega)
  rw [nw (show I32 (x * c) by omega), nw (by decide), nw (show I32 x by omega), nw (show I32 c by omega), n64 _ (by omega) (by omega), n64 100 (by decide) (by decide)]
  refine ⟨Int.tdiv_eq_ediv_of_nonneg h0, Int.tdiv_eq_ediv_of_nonneg h0, by omega, by omega⟩
theorem SB_rx {w : Nat → Int} {V : Nat → Int} {r : Nat} (h : SB V) : SB (rx (rA w) (rB w) (fS w) r V) := by
  intro p
  refine ⟨Int.le_trans (h p).1 (rx_ge V r p), ?_⟩
  exact rx_le (X := fun _ => 1000000) (fS_m w) (fun q => (h q).2) (fS_d w r _) (fS_d w r _) p
theorem SB_rnd {w : Nat → Int} {R : Nat} {V : Nat → Int} (h : SB V) : SB (rnd (rA w) (rB w) (fS w) R V) := fo_inv (P := fun _ V => SB V) R 0 V h (fun j V _ _ hV => SB_rx hV)
theorem imax_mx {a b : Int} (ha : I32 a) (hb : I32 b) : imax a b = mx a b := by
  rw [imax_v ha hb]
  unfold mx
  split <;> split <;> omega
section SureRows
variable {M : MM} {w : Nat → Int} {n : Nat}
theorem sure_inner {K : MM → OR} {v2 v3 : Int} (hC : WC n w) (hR : WR w) (hL : LandR 3 w M) (V : Nat → Int) (hV : SB V) : ways_greatestChance_L27 v2 v3 K FU 0 (rwG M 159 V) = K (rwG M 159 (rnd (rA w) (rB w) (fS w) (w 2).toNat V)) := by
  have c2 := hC.2.2.1
  have hl := hL.2.2.2.2.2.1
  have e2 := hL.1.2.2.1
  have := fo_runP0 (F := FU) (a := V) (L := fun F V i => ways_greatestChance_L27 v2 v3 K F i (rwG M 159 V)) (K := fun V => K (rwG M 159 V)) (g := fun r V => rx (rA w) (rB w) (fS w) r V) (N := (w 2).toNat) (P := fun _ V => SB V) (fun m V i hi hV => ?_) (fun m V hV => ?_) (fun i V _ h => SB_rx h) (FU_gt (by omega)) hV
  · exact this
  · have hr : (i : Int) < w 2 := by omega
    obtain ⟨ea, eb, la, lb, ne, ta, tb, -⟩ := rAB hC hR hr
    obtain ⟨l0, l1, -, l3⟩ := hl i (by omega) hr
    have hc := (hR i (by omega) hr).2.2.2.2
    have m0 : M 11 (2 * (i : Int)).toNat = ((rA w i : Nat) : Int) := by rw [ea]; exact l0
    have m1 : M 11 (2 * (i : Int) + 1).toNat = ((rB w i : Nat) : Int) := by rw [eb]; exact l1
    have m3 : M 13 ((i : Int)).toNat = oR w (i : Int) 3 := l3
    have va := hV (rA w i)
    have vb := hV (rB w i)
    obtain ⟨s1, -, s1b⟩ := fS_v (w := w) (r := i) vb hc
    have x1 : imax (V (rA w i)) (fS w i (V (rB w i))) = mx (V (rA w i)) (fS w i (V (rB w i))) := imax_mx (by omega) (by omega)
    generalize hV1 : up V (rA w i) (mx (V (rA w i)) (fS w i (V (rB w i)))) = V1
    have v1a : V1 (rA w i) = mx (V (rA w i)) (fS w i (V (rB w i))) := by rw [← hV1, up_eq]
    have v1b : V1 (rB w i) = V (rB w i) := by rw [← hV1, up_ne (Ne.symm ne)]
    have v1I : 0 ≤ V1 (rA w i) ∧ V1 (rA w i) ≤ 1000000 := by rw [v1a]; exact ⟨Int.le_trans va.1 (mx_l _ _), mx_le va.2 s1b.2⟩
    obtain ⟨s2, -, s2b⟩ := fS_v (w := w) (r := i) v1I hc
    have x2 : imax (V1 (rB w i)) (fS w i (V1 (rA w i))) = mx (V1 (rB w i)) (fS w i (V1 (rA w i))) := imax_mx (by rw [v1b]; omega) (by omega)
    have u2 : up V1 (rB w i) (mx (V1 (rB w i)) (fS w i (V1 (rA w i)))) = rx (rA w) (rB w) (fS w) i V := by
      unfold rx
      rw [hV1]
    rw [ways_greatestChance_L27, show (rwG M 159 V) 3 = M 3 from rwG_ne (by decide), e2, bq_ge (by omega) (by omega), if_neg (by omega), bq_ge (by omega) (by decide), if_neg (by omega), bq_in (by omega) (by omega), bq_in (by omega) (by omega), show (rwG M 159 V) 11 = M 11 from rwG_ne (by decide), show (rwG M 159 V) 13 = M 13 from rwG_ne (by decide), m0, m1, m3, bq_in (by omega) (by omega), bq_in (by omega) (by omega), bq_in (by omega) (by omega), bq_in (by omega) (by omega), sM_eq, Int.toNat_natCast, Int.toNat_natCast, rwG_at ta, rwG_at tb, s1, x1, rwG_up ta, hV1, rwG_at tb, rwG_at ta, show (rwG M 159 V1) 13 ((i : Int)).toNat = oR w (i : Int) 3 from by rw [rwG_ne (by decide)]; exact m3, s2, x2, bq_in (by omega) (by omega), bq_in (by omega) (by omega), bq_in (by omega) (by omega), bq_in (by omega) (by omega), sM_eq, rwG_up tb, u2]
  · rw [ways_greatestChance_L27, show (rwG M 159 V) 3 = M 3 from rwG_ne (by decide), e2, bq_ge (by omega) (by omega), if_pos (by omega)]
theorem sure_rounds {K : MM → OR} {v2 : Int} (hC : WC n w) (hR : WR w) (hL : LandR 3 w M) : ∀ (k F i : Nat) (V : Nat → Int), k + i = 10 → k < F → SB V → ways_greatestChance_L18 v2 K F (i : Int) (rwG M 159 V) = K (rwG M 159 (rnds (rA w) (rB w) (fS w) (w 2).toNat k V))
  | 0, F, i, V, h, hF, hV => by
    obtain ⟨m, rfl⟩ : ∃ n, F = n + 1 := ⟨F - 1, by omega⟩
    obtain rfl : i = 10 := by omega
    rw [ways_greatestChance_L18, bq_ge (by decide) (by decide), if_pos (by decide)]; rfl
  | k + 1, F, i, V, h, hF, hV => by
    obtain ⟨m, rfl⟩ : ∃ n, F = n + 1 := ⟨F - 1, by omega⟩
    rw [ways_greatestChance_L18, bq_ge (by omega) (by decide), if_neg (by omega), sure_inner hC hR hL V hV, show (i : Int) + 1 = ((i + 1 : Nat) : Int) by omega]
    exact sure_rounds hC hR hL k m (i + 1) _ (by omega) (by omega) (SB_rnd hV)
theorem sureR_inner {K : MM → OR} {v2 v3 : Int} (hw : M 166 = w) (hC : WC n w) (hR : WR w) (V : Nat → Int) (hV : SB V) : mo_surest_L81 v2 v3 K FU 0 (rwG M 175 V) = K (rwG M 175 (rnd (rA w) (rB w) (fS w) (w 2).toNat V)) := by
  have c2 := hC.2.2.1
  have := fo_runP0 (F := FU) (a := V) (L := fun F V i => mo_surest_L81 v2 v3 K F i (rwG M 175 V)) (K := fun V => K (rwG M 175 V)) (g := fun r V => rx (rA w) (rB w) (fS w) r V) (N := (w 2).toNat) (P := fun _ V => SB V) (fun m V i hi hV => ?_) (fun m V hV => ?_) (fun i V _ h => SB_rx h) (FU_gt (by omega)) hV
  · exact this
  · have hr : (i : Int) < w 2 := by omega
    obtain ⟨ea, eb, la, lb, ne, ta, tb, -⟩ := rAB hC hR hr
    have hc := (hR i (by omega) hr).2.2.2.2
    have r166 : ∀ V' : Nat → Int, (rwG M 175 V') 166 = w := fun V' => by rw [rwG_ne (by decide), hw]
    have va := hV (rA w i)
    have vb := hV (rB w i)
    obtain ⟨-, s1, s1b⟩ := fS_v (w := w) (r := i) vb hc
    have x1 : imax (V (rA w i)) (fS w i (V (rB w i))) = mx (V (rA w i)) (fS w i (V (rB w i))) := imax_mx (by omega) (by omega)
    generalize hV1 : up V (rA w i) (mx (V (rA w i)) (fS w i (V (rB w i)))) = V1
    have v1a : V1 (rA w i) = mx (V (rA w i)) (fS w i (V (rB w i))) := by rw [← hV1, up_eq]
    have v1b : V1 (rB w i) = V (rB w i) := by rw [← hV1, up_ne (Ne.symm ne)]
    have v1I : 0 ≤ V1 (rA w i) ∧ V1 (rA w i) ≤ 1000000 := by rw [v1a]; exact ⟨Int.le_trans va.1 (mx_l _ _), mx_le va.2 s1b.2⟩
    obtain ⟨-, s2, s2b⟩ := fS_v (w := w) (r := i) v1I hc
    have x2 : imax (V1 (rB w i)) (fS w i (V1 (rA w i))) = mx (V1 (rB w i)) (fS w i (V1 (rA w i))) := imax_mx (by rw [v1b]; omega) (by omega)
    have u2 : up V1 (rB w i) (mx (V1 (rB w i)) (fS w i (V1 (rA w i)))) = rx (rA w) (rB w) (fS w) i V := by
      unfold rx
      rw [hV1]
    rw [mo_surest_L81, mo_roads_b, r166, bq_ge (by omega) (by omega), if_neg (by omega), mo_ofRoad_b (by omega) (by omega) (by decide) (by decide), mo_ofRoad_b (by omega) (by omega) (by decide) (by decide), r166, ← ea, ← eb, bq_in (by omega) (by omega), bq_in (by omega) (by omega), mo_ofRoad_b (by omega) (by omega) (by decide) (by decide), r166, bq_in (by omega) (by omega), sM_eq, Int.toNat_natCast, Int.toNat_natCast, rwG_at ta, rwG_at tb, s1, x1, rwG_up ta, hV1, bq_in (by omega) (by omega), bq_in (by omega) (by omega), mo_ofRoad_b (by omega) (by omega) (by decide) (by decide), r166, rwG_at tb, rwG_at ta, s2, x2, bq_in (by omega) (by omega), sM_eq, rwG_up tb, u2]
  · rw [mo_surest_L81, mo_roads_b, show (rwG M 175 V) 166 = w from by rw [rwG_ne (by decide), hw], bq_ge (by omega) (by omega), if_pos (by omega)]
theorem sureR_rounds {K : MM → OR} {v2 : Int} (hw : M 166 = w) (hC : WC n w) (hR : WR w) : ∀ (k F i : Nat) (V : Nat → Int), k + i = (w 0).toNat → k < F → SB V → mo_surest_L70 v2 K F (i : Int) (rwG M 175 V) = K (rwG M 175 (rnds (rA w) (rB w) (fS w) (w 2).toNat k V))
  | 0, F, i, V, h, hF, hV => by
    have c0 := hC.1
    obtain ⟨m, rfl⟩ : ∃ n, F = n + 1 := ⟨F - 1, by omega⟩
    rw [mo_surest_L70, mo_places_b, show (rwG M 175 V) 166 = w from by rw [rwG_ne (by decide), hw], bq_ge (by omega) (by omega), if_pos (by omega)]; rfl
  | k + 1, F, i, V, h, hF, hV => by
    have c0 := hC.1
    obtain ⟨m, rfl⟩ : ∃ n, F = n + 1 := ⟨F - 1, by omega⟩
    rw [mo_surest_L70, mo_places_b, show (rwG M 175 V) 166 = w from by rw [rwG_ne (by decide), hw], bq_ge (by omega) (by omega), if_neg (by omega), sureR_inner hw hC hR V hV, show (i : Int) + 1 = ((i + 1 : Nat) : Int) by omega]
    exact sureR_rounds hw hC hR k m (i + 1) _ (by omega) (by omega) (SB_rnd hV)
end SureRows
theorem v0_SB {a : Nat} : SB (v0S a) := fun p => by unfold v0S; split <;> omega
theorem SB_rnds {w : Nat → Int} {R : Nat} : ∀ k (V : Nat → Int), SB V → SB (rnds (rA w) (rB w) (fS w) R k V)
  | 0, V, h => h
  | k + 1, V, h => SB_rnds k _ (SB_rnd h)
def suV (w : Nat → Int) (a p : Nat) : Int := rnds (rA w) (rB w) (fS w) (w 2).toNat (w 0).toNat (v0S a) p
theorem su_eq {w : Nat → Int} {n a p : Nat} (hC : WC n w) (hR : WR w) (hp : (p : Int) < w 0) : rnds (rA w) (rB w) (fS w) (w 2).toNat 10 (v0S a) p = suV w a p := by
  have c0 := hC.1
  exact rnds_eq (P := (w 0).toNat) (fS_d w) (fun r hr => by
    obtain ⟨ea, eb, la, lb, -⟩ := rAB hC hR (r := r) (by omega)
    omega) (fS_m w) (v0S a) (by omega) p (by omega)
theorem ok_surest {v1 v2 : Int} (h1 : I32 v1) (h2 : I32 v2) : OpOK (drv_surest v1 v2) (mo_surest v1 v2) := by
  refine op_read fun k M hk hI => ?_
  obtain ⟨-, hW, hL, hJ, -⟩ := hI
  have c0 := hW.1.1
  by_cases h : (0 ≤ v1 ∧ v1 < M 166 0) ∧ (0 ≤ v2 ∧ v2 < M 166 0)
  · obtain ⟨a, rfl⟩ : ∃ n : Nat, v1 = (n : Int) := ⟨v1.toNat, by omega⟩
    obtain ⟨p, rfl⟩ : ∃ n : Nat, v2 = (n : Int) := ⟨v2.toNat, by omega⟩
    have hb := SB_rnds (w := M 166) (R := (M 166 2).toNat) (M 166 0).toNat (v0S a) v0_SB p
    have hzI : I32 (suV (M 166) a p) := by unfold suV; omega
    refine ⟨0, suV (M 166) a p, by decide, fun _ => hzI, fun hx => ?_, fun N hN e _ => ?_⟩
    · refine ansC_ret (E := fun c_6 M_2 => (bif Nat.beq c_6 15 then some (rI 1, M_2) else none)) (M1 := rwG M 159 (rnds (rA (M 166)) (rB (M 166)) (fS (M 166)) (M 166 2).toNat 10 (v0S a))) hx ?_ hzI (Core_rwG (by unfold coreA; omega) (by decide) (by decide) (by decide)) (rwG_ne (by decide))
      have init : mU (mV M 159 (fun j => if j < 10 then 0 else M 159 j)) 159 a 1000000 = rwG M 159 (v0S a) := by
        rw [show mV M 159 (fun j => if j < 10 then 0 else M 159 j) = rwG M 159 (fun _ => 0) from rfl, rwG_up (by omega)]
        congr 1
      have run := sure_rounds (M := M) (K := fun M_15 => (bif inB (p : Int) 10 then some (rI (M_15 159 ((p : Int)).toNat), M_15) else none)) (v2 := (p : Int)) hW.1 hW.2.2.2.1 hL 10 FU 0 (v0S a) rfl (FU_gt (by decide)) v0_SB
      unfold gh_surest ways_greatestChance jdk_fill
      rw [checkPlace_t hW.1 hL.1.1 h.1.1 h.1.2, checkPlace_t hW.1 hL.1.1 h.2.1 h.2.2, bV_V, bq_in (by omega) (by omega), sM_eq, Int.toNat_natCast, Int.toNat_natCast, init]
      rw [Int.toNat_natCast] at run
      rw [show ways_greatestChance_L18 (p : Int) _ FU 0 _ = _ from run, bq_in (by omega) (by omega), rwG_at (by omega), su_eq hW.1 hW.2.2.2.1 h.2.2, bI_I]
    · have hWN := hN.2.1
      rw [← e] at h c0 hzI ⊢
      have init : ∀ K : MM → OR, mo_surest_L38 (a : Int) (p : Int) K FU 0 (mU N 165 0 0) = K (rwG (mU N 165 0 0) 175 (v0S a)) := by
        intro K
        have := fl_run0 (L := fun F i M => mo_surest_L38 (a : Int) (p : Int) K F i M) (K := K) (M := mU N 165 0 0) (a := 175) (o := 0) (N := 10) (F := FU) (f := v0S a) (FU_gt (by decide)) (fun m i hi => ?_) (fun m => ?_)
        · have e : flM (mU N 165 0 0) 175 0 (0 + 10) (v0S a) = rwG (mU N 165 0 0) 175 (v0S a) := by
            unfold flM rwG
            congr 1
            funext j
            by_cases hj : j < 10
            · rw [if_pos ⟨Nat.zero_le _, by omega⟩, if_pos hj, Nat.sub_zero]
            · rw [if_neg (fun h => hj (by omega)), if_neg hj]
          rw [e] at this
          exact this
        · rw [mo_surest_L38, bq_ge (by omega) (by decide), if_neg (by omega), bq_ne (by omega) (by omega), bq_in (by omega) (by omega), sM_eq, bq_in (by omega) (by omega), sM_eq, Int.toNat_natCast, Nat.zero_add]
          unfold v0S
          by_cases hia : i = a
          · rw [if_pos (by omega), if_pos hia]
          · rw [if_neg (by omega), if_neg hia]
        · rw [mo_surest_L38, bq_ge (by decide) (by decide), if_pos (by decide)]
      have run := sureR_rounds (M := mU N 165 0 0) (w := N 166) (K := fun M_46 => (bif inB (p : Int) 10 then some (rI (M_46 175 ((p : Int)).toNat), M_46) else none)) (v2 := (p : Int)) rfl hWN.1 hWN.2.2.2.1 (N 166 0).toNat FU 0 (v0S a) rfl (FU_gt (by omega)) v0_SB
      refine ansR_ret (N2 := rwG (mU N 165 0 0) 175 (rnds (rA (N 166)) (rB (N 166)) (fS (N 166)) (N 166 2).toNat (N 166 0).toNat (v0S a))) ?_ (by rw [rwG_ne (by decide)]; rfl) (Core_t0.trans' (Core_rwG (by unfold coreA; omega) (by decide) (by decide) (by decide))) (by rw [rwG_ne (by decide)]; rfl) (by rw [rwG_ne (by decide)]; rfl)
      unfold mo_surest mo_surest_J27
      rw [sM_eq, mo_noPlace_b (M := mU N 165 0 0) hWN.1 h1, decide_eq_true (show 0 ≤ (a : Int) ∧ (a : Int) < (mU N 165 0 0) 166 0 from h.1), Bool.not_true, bz_ne0, cn_f, mo_noPlace_b (M := mU N 165 0 0) hWN.1 h2, decide_eq_true (show 0 ≤ (p : Int) ∧ (p : Int) < (mU N 165 0 0) 166 0 from h.2), Bool.not_true, bz_eq0, cn_f, mo_throwsIf_0, bq_eq (by decide) (by decide), if_pos rfl, init, show mo_surest_L70 (p : Int) _ FU 0 _ = _ from run, bq_in (by omega) (by omega), Int.toNat_natCast, rwG_at (by omega)]
      rfl
  · refine ⟨1, 0, by decide, fun g => absurd g (by decide), fun hx => ?_, fun N hN e _ => ?_⟩
    · refine ansC_thr (E := fun c_6 M_2 => (bif Nat.beq c_6 15 then some (rI 1, M_2) else none)) (c := 15) (M1 := M) hx ?_ rfl (by decide) Core.rfl' rfl
      unfold gh_surest
      by_cases g1 : 0 ≤ v1 ∧ v1 < M 166 0
      · rw [checkPlace_t hW.1 hL.1.1 g1.1 g1.2, checkPlace_f hW.1 hL.1.1 hx h2 (fun g => h ⟨g1, g⟩)]
      · rw [checkPlace_f hW.1 hL.1.1 hx h1 g1]
    · have hWN := hN.2.1
      rw [← e] at h
      refine ansR_thr (z' := 0) ?_ (by decide)
      unfold mo_surest mo_surest_J22 mo_surest_J27
      rw [sM_eq, mo_noPlace_b (M := mU N 165 0 0) hWN.1 h1, bz_ne0]
      by_cases g1 : 0 ≤ v1 ∧ v1 < N 166 0
      · rw [decide_eq_true (show 0 ≤ v1 ∧ v1 < (mU N 165 0 0) 166 0 from g1), Bool.not_true, cn_f, mo_noPlace_b (M := mU N 165 0 0) hWN.1 h2, decide_eq_false (show ¬ (0 ≤ v2 ∧ v2 < (mU N 165 0 0) 166 0) from fun g => h ⟨g1, g⟩), Bool.not_false, bz_eq0, cn_t, mo_throwsIf_1, bq_eq (by decide) (by decide), if_neg (by decide)]
      · rw [decide_eq_false (show ¬ (0 ≤ v1 ∧ v1 < (mU N 165 0 0) 166 0) from g1), Bool.not_false, cn_t, mo_throwsIf_1, bq_eq (by decide) (by decide), if_neg (by decide)]
