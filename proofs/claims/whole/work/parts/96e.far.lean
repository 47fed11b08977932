/-! ===== FAR on both sides ===== -/
theorem fo_runP {α : Type} {L : Nat → α → Int → OR} {K : α → OR} {g : Nat → α → α} {N : Nat} {P : Nat → α → Prop} (hs : ∀ n a (i : Nat), i < N → P i a → L (n + 1) a (i : Int) = L n (g i a) ((i : Int) + 1)) (he : ∀ n a, P N a → L (n + 1) a (N : Int) = K a) (hg : ∀ i a, i < N → P i a → P (i + 1) (g i a)) : ∀ k F i a, k + i = N → k < F → P i a → L F a (i : Int) = K (fo g k i a)
  | 0, F, i, a, h, hF, hp => by
    obtain ⟨n, rfl⟩ : ∃ n, F = n + 1 := ⟨F - 1, by omega⟩
    obtain rfl : i = N := by omega
    exact he n a hp
  | k + 1, F, i, a, h, hF, hp => by
    obtain ⟨n, rfl⟩ : ∃ n, F = n + 1 := ⟨F - 1, by omega⟩
    rw [hs n a i (by omega) hp, show (i : Int) + 1 = ((i + 1 : Nat) : Int) by omega]
    exact fo_runP hs he hg k n (i + 1) (g i a) (by omega) (by omega) (hg i a (by omega) hp)
theorem fo_runP0 {α : Type} {L : Nat → α → Int → OR} {K : α → OR} {g : Nat → α → α} {N : Nat} {P : Nat → α → Prop} (hs : ∀ n a (i : Nat), i < N → P i a → L (n + 1) a (i : Int) = L n (g i a) ((i : Int) + 1)) (he : ∀ n a, P N a → L (n + 1) a (N : Int) = K a) (hg : ∀ i a, i < N → P i a → P (i + 1) (g i a)) {F : Nat} {a : α} (hF : N < F) (hp : P 0 a) : L F a 0 = K (fo g N 0 a) := fo_runP hs he hg N F 0 a rfl hF hp
def rwG (M : MM) (b : Nat) (W : Nat → Int) : MM := mV M b (fun j => if j < 10 then W j else M b j)
theorem rwG_ne {M : MM} {b p : Nat} {W : Nat → Int} (h : p ≠ b) : rwG M b W p = M p := mV_ne h
theorem rwG_at {M : MM} {b j : Nat} {W : Nat → Int} (h : j < 10) : rwG M b W b j = W j := by unfold rwG; rw [mV_eq, if_pos h]
theorem rwG_up {M : MM} {b j : Nat} {W : Nat → Int} {x : Int} (h : j < 10) : mU (rwG M b W) b j x = rwG M b (up W j x) := by
  funext a i
  by_cases ha : a = b
  · subst ha
    rw [mU_eq]
    unfold rwG
    rw [mV_eq, mV_eq]
    by_cases hi : i = j
    · subst hi; rw [up_eq, if_pos h, up_eq]
    · rw [up_ne hi]
      by_cases h10 : i < 10
      · rw [if_pos h10, if_pos h10, up_ne hi]
      · rw [if_neg h10, if_neg h10]
  · rw [mU_ne ha, rwG_ne ha, rwG_ne ha]
def rA (w : Nat → Int) (r : Nat) : Nat := (oR w (r : Int) 0).toNat
def rB (w : Nat → Int) (r : Nat) : Nat := (oR w (r : Int) 1).toNat
def fF (w : Nat → Int) (r : Nat) (x : Int) : Int := x - ((oR w (r : Int) 2).toNat : Int)
def v0F (nv : Int) (a p : Nat) : Int := if p = a then 0 else -nv
def VB (nv : Int) (V : Nat → Int) : Prop := ∀ p, -nv ≤ V p ∧ V p ≤ 0
theorem VB_rx {w : Nat → Int} {nv : Int} {V : Nat → Int} {r : Nat} (h : VB nv V) : VB nv (rx (rA w) (rB w) (fF w) r V) := by
  intro p
  refine ⟨Int.le_trans (h p).1 (rx_ge V r p), ?_⟩
  have hm : ∀ r x y, x ≤ y → fF w r x ≤ fF w r y := fun r x y h => by unfold fF; omega
  exact rx_le (X := fun _ => 0) hm (fun q => (h q).2) (by show fF w r 0 ≤ 0; unfold fF; omega) (by show fF w r 0 ≤ 0; unfold fF; omega) p
theorem imin_v {a b : Int} (ha : I32 a) (hb : I32 b) : imin a b = if b < a then b else a := by unfold imin; rw [nw ha, nw hb]
theorem imax_v {a b : Int} (ha : I32 a) (hb : I32 b) : imax a b = if a < b then b else a := by unfold imax; rw [nw ha, nw hb]
theorem imin_mx {a b h : Int} (ha : -2000000 ≤ a ∧ a ≤ 0) (hb : -2000000 ≤ b ∧ b ≤ 0) (hh : 0 ≤ h ∧ h ≤ 9) : imin (-a) (-b + h) = -(mx a (b - h)) := by
  rw [imin_v (by omega) (by omega)]
  unfold mx
  split <;> split <;> omega
section FarRows
variable {M : MM} {w : Nat → Int} {n b : Nat}
theorem rAB (hC : WC n w) (hR : WR w) {r : Nat} (hr : (r : Int) < w 2) : ((rA w r : Nat) : Int) = oR w (r : Int) 0 ∧ ((rB w r : Nat) : Int) = oR w (r : Int) 1 ∧ (rA w r : Int) < w 0 ∧ (rB w r : Int) < w 0 ∧ rA w r ≠ rB w r ∧ rA w r < 10 ∧ rB w r < 10 ∧ (((oR w (r : Int) 2).toNat : Nat) : Int) = oR w (r : Int) 2 ∧ (1 ≤ oR w (r : Int) 2 ∧ oR w (r : Int) 2 ≤ 9) := by
  obtain ⟨a, b, c, d, -⟩ := hR r (by omega) hr
  have c0 := hC.1
  unfold rA rB
  omega
theorem measure_inner {K : MM → OR} {v3 : Int} {nv : Int} (hnv : 0 ≤ nv ∧ nv ≤ 1000000) (hb : b = 159 ∨ b = 160) (hC : WC n w) (hR : WR w) (hL : LandR 3 w M) (V : Nat → Int) (hV : VB nv V) : ways_measure_L21 b v3 K FU 0 (rwG M b (fun j => -(V j))) = K (rwG M b (fun j => -(rnd (rA w) (rB w) (fF w) (w 2).toNat V j))) := by
  have c2 := hC.2.2.1
  have hl := hL.2.2.2.2.2.1
  have e2 := hL.1.2.2.1
  have := fo_runP0 (F := FU) (a := V) (L := fun F V i => ways_measure_L21 b v3 K F i (rwG M b (fun j => -(V j)))) (K := fun V => K (rwG M b (fun j => -(V j)))) (g := fun r V => rx (rA w) (rB w) (fF w) r V) (N := (w 2).toNat) (P := fun _ V => VB nv V) (fun m V i hi hV => ?_) (fun m V hV => ?_) (fun i V _ h => VB_rx h) (FU_gt (by omega)) hV
  · exact this
  · have hr : (i : Int) < w 2 := by omega
    obtain ⟨ea, eb, la, lb, ne, ta, tb, eh, hh⟩ := rAB hC hR hr
    obtain ⟨l0, l1, l2, -⟩ := hl i (by omega) hr
    have r3 : (rwG M b (fun j => -(V j))) 3 = M 3 := rwG_ne (by omega)
    have r11 : (rwG M b (fun j => -(V j))) 11 = M 11 := rwG_ne (by omega)
    have r12 : (rwG M b (fun j => -(V j))) 12 = M 12 := rwG_ne (by omega)
    have m0 : M 11 (2 * (i : Int)).toNat = ((rA w i : Nat) : Int) := by rw [ea]; exact l0
    have m1 : M 11 (2 * (i : Int) + 1).toNat = ((rB w i : Nat) : Int) := by rw [eb]; exact l1
    have m2 : M 12 ((i : Int)).toNat = oR w (i : Int) 2 := l2
    have va := hV (rA w i)
    have vb := hV (rB w i)
    have s1 : imin (-(V (rA w i))) (-(V (rB w i)) + oR w (i : Int) 2) = -(mx (V (rA w i)) (fF w i (V (rB w i)))) := by
      rw [imin_mx (by omega) (by omega) (by omega)]; unfold fF; rw [eh]
    have b1 : -nv ≤ mx (V (rA w i)) (fF w i (V (rB w i))) ∧ mx (V (rA w i)) (fF w i (V (rB w i))) ≤ 0 := ⟨Int.le_trans va.1 (mx_l _ _), mx_le va.2 (by unfold fF; omega)⟩
    have u1 : up (fun j => -(V j)) (rA w i) (-(mx (V (rA w i)) (fF w i (V (rB w i))))) = fun j => -(up V (rA w i) (mx (V (rA w i)) (fF w i (V (rB w i)))) j) := by
      funext j
      by_cases hj : j = rA w i
      · subst hj; rw [up_eq, up_eq]
      · rw [up_ne hj, up_ne hj]
    generalize hV1 : up V (rA w i) (mx (V (rA w i)) (fF w i (V (rB w i)))) = V1 at *
    have v1a : V1 (rA w i) = mx (V (rA w i)) (fF w i (V (rB w i))) := by rw [← hV1, up_eq]
    have v1b : V1 (rB w i) = V (rB w i) := by rw [← hV1, up_ne (Ne.symm ne)]
    have s2 : imin (-(V1 (rB w i))) (-(V1 (rA w i)) + oR w (i : Int) 2) = -(mx (V1 (rB w i)) (fF w i (V1 (rA w i)))) := by
      rw [imin_mx (by rw [v1b]; omega) (by rw [v1a]; omega) (by omega)]; unfold fF; rw [eh]
    have u2 : up (fun j => -(V1 j)) (rB w i) (-(mx (V1 (rB w i)) (fF w i (V1 (rA w i))))) = fun j => -(rx (rA w) (rB w) (fF w) i V j) := by
      funext j
      unfold rx
      rw [hV1]
      by_cases hj : j = rB w i
      · subst hj; rw [up_eq, up_eq]
      · rw [up_ne hj, up_ne hj]
    rw [ways_measure_L21, r3, e2, bq_ge (by omega) (by omega), if_neg (by omega), bq_ge (by omega) (by decide), if_neg (by omega), bq_in (by omega) (by omega), bq_in (by omega) (by omega), r11, r12, m0, m1, m2, bq_in (by omega) (by omega), bq_in (by omega) (by omega), bq_in (by omega) (by omega), bq_in (by omega) (by omega), sM_eq, Int.toNat_natCast, Int.toNat_natCast, rwG_at ta, rwG_at tb, s1, rwG_up ta, u1, rwG_at tb, rwG_at ta, show (rwG M b (fun j => -(V1 j))) 12 ((i : Int)).toNat = oR w (i : Int) 2 from by rw [rwG_ne (by omega)]; exact m2, s2, bq_in (by omega) (by omega), bq_in (by omega) (by omega), bq_in (by omega) (by omega), bq_in (by omega) (by omega), sM_eq, rwG_up tb, u2]
  · rw [ways_measure_L21, show (rwG M b (fun j => -(V j))) 3 = M 3 from rwG_ne (by omega), e2, bq_ge (by omega) (by omega), if_pos (by omega)]
theorem VB_rnd {nv : Int} {R : Nat} {V : Nat → Int} (h : VB nv V) : VB nv (rnd (rA w) (rB w) (fF w) R V) := fo_inv (P := fun _ V => VB nv V) R 0 V h (fun j V _ _ hV => VB_rx hV)
theorem measure_rounds {K : MM → OR} {nv : Int} (hnv : 0 ≤ nv ∧ nv ≤ 1000000) (hb : b = 159 ∨ b = 160) (hC : WC n w) (hR : WR w) (hL : LandR 3 w M) : ∀ (k F i : Nat) (V : Nat → Int), k + i = 10 → k < F → VB nv V → ways_measure_L12 b K F (i : Int) (rwG M b (fun j => -(V j))) = K (rwG M b (fun j => -(rnds (rA w) (rB w) (fF w) (w 2).toNat k V j)))
  | 0, F, i, V, h, hF, hV => by
    obtain ⟨m, rfl⟩ : ∃ n, F = n + 1 := ⟨F - 1, by omega⟩
    obtain rfl : i = 10 := by omega
    rw [ways_measure_L12, bq_ge (by decide) (by decide), if_pos (by decide)]; rfl
  | k + 1, F, i, V, h, hF, hV => by
    obtain ⟨m, rfl⟩ : ∃ n, F = n + 1 := ⟨F - 1, by omega⟩
    rw [ways_measure_L12, bq_ge (by omega) (by decide), if_neg (by omega), measure_inner hnv hb hC hR hL V hV, show (i : Int) + 1 = ((i + 1 : Nat) : Int) by omega]
    exact measure_rounds hnv hb hC hR hL k m (i + 1) _ (by omega) (by omega) (VB_rnd hV)
def farF (w : Nat → Int) (a : Nat) (p : Nat) : Int := -(rnds (rA w) (rB w) (fF w) (w 2).toNat 10 (v0F 1000000 a) p)
theorem v0_VB {nv : Int} {a : Nat} (h : 0 ≤ nv) : VB nv (v0F nv a) := fun p => by unfold v0F; split <;> omega
theorem measure_b {k : MM → OR} {a : Nat} (hb : b = 159 ∨ b = 160) (hC : WC n w) (hR : WR w) (hL : LandR 3 w M) (ha : (a : Int) < w 0) : bV (ways_measure (a : Int) b M) k = k (rwG M b (farF w a)) := by
  have c0 := hC.1
  unfold ways_measure jdk_fill
  rw [bV_V, bq_in (by omega) (by omega), sM_eq, Int.toNat_natCast]
  have e : mU (mV M b (fun j => if j < 10 then 1000000 else M b j)) b a 0 = rwG M b (fun j => -(v0F 1000000 a j)) := by
    rw [show mV M b (fun j => if j < 10 then 1000000 else M b j) = rwG M b (fun _ => 1000000) from rfl, rwG_up (by omega)]
    congr 1
    funext j
    unfold v0F
    by_cases hj : j = a
    · subst hj; rw [up_eq, if_pos rfl]; rfl
    · rw [up_ne hj, if_neg hj]; rfl
  have := measure_rounds (K := fun M_15 => some (rV, M_15)) (nv := 1000000) (by decide) hb hC hR hL 10 FU 0 (v0F 1000000 a) rfl (FU_gt (by decide)) (v0_VB (by decide))
  rw [e, show ways_measure_L12 b _ FU 0 _ = _ from this, bV_V]
  rfl
-- the reference
theorem lays_inner {K : MM → OR} {v2 : Int} {nv : Int} (hnv : 0 ≤ nv ∧ nv ≤ 1000000) (hw : M 166 = w) (hC : WC n w) (hR : WR w) (V : Nat → Int) (hV : VB nv V) : mo_laysFar_L44 v2 K FU 0 (rwG M 175 (fun j => -(V j))) = K (rwG M 175 (fun j => -(rnd (rA w) (rB w) (fF w) (w 2).toNat V j))) := by
  have c2 := hC.2.2.1
  have := fo_runP0 (F := FU) (a := V) (L := fun F V i => mo_laysFar_L44 v2 K F i (rwG M 175 (fun j => -(V j)))) (K := fun V => K (rwG M 175 (fun j => -(V j)))) (g := fun r V => rx (rA w) (rB w) (fF w) r V) (N := (w 2).toNat) (P := fun _ V => VB nv V) (fun m V i hi hV => ?_) (fun m V hV => ?_) (fun i V _ h => VB_rx h) (FU_gt (by omega)) hV
  · exact this
  · have hr : (i : Int) < w 2 := by omega
    obtain ⟨ea, eb, la, lb, ne, ta, tb, eh, hh⟩ := rAB hC hR hr
    have r166 : ∀ V' : Nat → Int, (rwG M 175 (fun j => -(V' j))) 166 = w := fun V' => by rw [rwG_ne (by decide), hw]
    have va := hV (rA w i)
    have vb := hV (rB w i)
    have s1 : imin (-(V (rA w i))) (-(V (rB w i)) + oR w (i : Int) 2) = -(mx (V (rA w i)) (fF w i (V (rB w i)))) := by
      rw [imin_mx (by omega) (by omega) (by omega)]; unfold fF; rw [eh]
    have b1 : -nv ≤ mx (V (rA w i)) (fF w i (V (rB w i))) ∧ mx (V (rA w i)) (fF w i (V (rB w i))) ≤ 0 := ⟨Int.le_trans va.1 (mx_l _ _), mx_le va.2 (by unfold fF; omega)⟩
    have u1 : up (fun j => -(V j)) (rA w i) (-(mx (V (rA w i)) (fF w i (V (rB w i))))) = fun j => -(up V (rA w i) (mx (V (rA w i)) (fF w i (V (rB w i)))) j) := by
      funext j
      by_cases hj : j = rA w i
      · subst hj; rw [up_eq, up_eq]
      · rw [up_ne hj, up_ne hj]
    generalize hV1 : up V (rA w i) (mx (V (rA w i)) (fF w i (V (rB w i)))) = V1 at *
    have v1a : V1 (rA w i) = mx (V (rA w i)) (fF w i (V (rB w i))) := by rw [← hV1, up_eq]
    have v1b : V1 (rB w i) = V (rB w i) := by rw [← hV1, up_ne (Ne.symm ne)]
    have s2 : imin (-(V1 (rB w i))) (-(V1 (rA w i)) + oR w (i : Int) 2) = -(mx (V1 (rB w i)) (fF w i (V1 (rA w i)))) := by
      rw [imin_mx (by rw [v1b]; omega) (by rw [v1a]; omega) (by omega)]; unfold fF; rw [eh]
    have u2 : up (fun j => -(V1 j)) (rB w i) (-(mx (V1 (rB w i)) (fF w i (V1 (rA w i))))) = fun j => -(rx (rA w) (rB w) (fF w) i V j) := by
      funext j
      unfold rx
      rw [hV1]
      by_cases hj : j = rB w i
      · subst hj; rw [up_eq, up_eq]
      · rw [up_ne hj, up_ne hj]
    rw [mo_laysFar_L44, mo_roads_b, r166, bq_ge (by omega) (by omega), if_neg (by omega), mo_ofRoad_b (by omega) (by omega) (by decide) (by decide), mo_ofRoad_b (by omega) (by omega) (by decide) (by decide), r166, ← ea, ← eb, bq_in (by omega) (by omega), bq_in (by omega) (by omega), mo_ofRoad_b (by omega) (by omega) (by decide) (by decide), r166, bq_in (by omega) (by omega), sM_eq, Int.toNat_natCast, Int.toNat_natCast, rwG_at ta, rwG_at tb, s1, rwG_up ta, u1, bq_in (by omega) (by omega), bq_in (by omega) (by omega), mo_ofRoad_b (by omega) (by omega) (by decide) (by decide), r166, rwG_at tb, rwG_at ta, s2, bq_in (by omega) (by omega), sM_eq, rwG_up tb, u2]
  · rw [mo_laysFar_L44, mo_roads_b, show (rwG M 175 (fun j => -(V j))) 166 = w from by rw [rwG_ne (by decide), hw], bq_ge (by omega) (by omega), if_pos (by omega)]
theorem lays_rounds {K : MM → OR} {nv : Int} (hnv : 0 ≤ nv ∧ nv ≤ 1000000) (hw : M 166 = w) (hC : WC n w) (hR : WR w) : ∀ (k F i : Nat) (V : Nat → Int), k + i = (w 0).toNat → k < F → VB nv V → mo_laysFar_L34 K F (i : Int) (rwG M 175 (fun j => -(V j))) = K (rwG M 175 (fun j => -(rnds (rA w) (rB w) (fF w) (w 2).toNat k V j)))
  | 0, F, i, V, h, hF, hV => by
    have c0 := hC.1
    obtain ⟨m, rfl⟩ : ∃ n, F = n + 1 := ⟨F - 1, by omega⟩
    rw [mo_laysFar_L34, mo_places_b, show (rwG M 175 (fun j => -(V j))) 166 = w from by rw [rwG_ne (by decide), hw], bq_ge (by omega) (by omega), if_pos (by omega)]; rfl
  | k + 1, F, i, V, h, hF, hV => by
    have c0 := hC.1
    obtain ⟨m, rfl⟩ : ∃ n, F = n + 1 := ⟨F - 1, by omega⟩
    rw [mo_laysFar_L34, mo_places_b, show (rwG M 175 (fun j => -(V j))) 166 = w from by rw [rwG_ne (by decide), hw], bq_ge (by omega) (by omega), if_neg (by omega), lays_inner hnv hw hC hR V hV, show (i : Int) + 1 = ((i + 1 : Nat) : Int) by omega]
    exact lays_rounds hnv hw hC hR k m (i + 1) _ (by omega) (by omega) (VB_rnd hV)
theorem VB_rnds {nv : Int} {R : Nat} : ∀ k (V : Nat → Int), VB nv V → VB nv (rnds (rA w) (rB w) (fF w) R k V)
  | 0, V, h => h
  | k + 1, V, h => VB_rnds k _ (VB_rnd h)
def dF (w : Nat → Int) (a : Nat) (p : Nat) : Int := -(rnds (rA w) (rB w) (fF w) (w 2).toNat (w 0).toNat (v0F 100000 a) p)
theorem lays_b {k : MM → OR} {a : Nat} (hw : M 166 = w) (hC : WC n w) (hR : WR w) (ha : (a : Int) < w 0) : bV (mo_laysFar (a : Int) M) k = k (rwG M 175 (dF w a)) := by
  have c0 := hC.1
  have init : ∀ K : MM → OR, mo_laysFar_L2 (a : Int) K FU 0 M = K (rwG M 175 (fun j => -(v0F 100000 a j))) := by
    intro K
    have := fl_run0 (L := fun F i M => mo_laysFar_L2 (a : Int) K F i M) (K := K) (M := M) (a := 175) (o := 0) (N := 10) (F := FU) (f := fun j => -(v0F 100000 a j)) (FU_gt (by decide)) (fun m i hi => ?_) (fun m => ?_)
    · have e : flM M 175 0 (0 + 10) (fun j => -(v0F 100000 a j)) = rwG M 175 (fun j => -(v0F 100000 a j)) := by
        unfold flM rwG
        congr 1
        funext j
        by_cases hj : j < 10
        · rw [if_pos ⟨Nat.zero_le _, by omega⟩, if_pos hj, Nat.sub_zero]
        · rw [if_neg (fun h => hj (by omega)), if_neg hj]
      rw [e] at this
      exact this
    · rw [mo_laysFar_L2, bq_ge (by omega) (by decide), if_neg (by omega), bq_ne (by omega) (by omega), bq_in (by omega) (by omega), sM_eq, sM_eq, Int.toNat_natCast, Nat.zero_add]
      unfold v0F
      by_cases hia : i = a
      · rw [if_pos (by omega), if_pos hia]; rfl
      · rw [if_neg (by omega), if_neg hia, bq_in (by omega) (by omega)]; rfl
    · rw [mo_laysFar_L2, bq_ge (by decide) (by decide), if_pos (by decide)]
  have clip : ∀ (K : MM → OR) (V : Nat → Int), VB 100000 V → mo_laysFar_L144 K FU 0 (rwG M 175 (fun j => -(V j))) = K (rwG M 175 (fun j => -(V j))) := by
    intro K V hV
    have := fo_run0 (L := fun F (_ : Unit) i => mo_laysFar_L144 K F i (rwG M 175 (fun j => -(V j)))) (K := fun _ => K (rwG M 175 (fun j => -(V j)))) (g := fun _ a => a) (N := 10) (F := FU) (a := ()) (FU_gt (by decide)) (fun m u i hi => ?_) (fun m u => ?_)
    · exact this
    · have hv := hV i
      have e : up (fun j => -(V j)) i (-(V i)) = fun j => -(V j) := by
        funext j
        by_cases hj : j = i
        · subst hj; rw [up_eq]
        · rw [up_ne hj]
      rw [mo_laysFar_L144, bq_ge (by omega) (by decide), if_neg (by omega), bq_in (by omega) (by omega), bq_in (by omega) (by omega), sM_eq, Int.toNat_natCast, rwG_at hi, imin_v (by omega) (by decide), if_neg (by omega), rwG_up hi, e]
    · rw [mo_laysFar_L144, bq_ge (by decide) (by decide), if_pos (by decide)]
  have rr := lays_rounds (M := M) (K := fun M_40 => (mo_laysFar_L144 (fun M_50 => some (rV, M_50)) FU 0 M_40)) (nv := 100000) (by decide) hw hC hR (w 0).toNat FU 0 (v0F 100000 a) rfl (FU_gt (by omega)) (v0_VB (by decide))
  unfold mo_laysFar
  rw [init, show mo_laysFar_L34 _ FU 0 _ = _ from rr, clip _ _ (VB_rnds _ _ (v0_VB (by decide))), bV_V]
  rfl
end FarRows
/-- the class's number of hours is the reference's; where there is no way each has its own -/
def relF (c : Nat) (V V' : Nat → Int) : Prop := ∀ p, (V p = V' p ∧ -(9 * (c : Int)) ≤ V p ∧ V p ≤ 0) ∨ (V p = -1000000 ∧ V' p = -100000)
theorem relF_half {w : Nat → Int} {c r a b : Nat} {U U' : Nat → Int} (hc : c ≤ 1000) (hh : oR w (r : Int) 2 ≤ 9) (h : relF c U U') : relF (c + 1) (up U a (mx (U a) (fF w r (U b)))) (up U' a (mx (U' a) (fF w r (U' b)))) := by
  intro p
  by_cases hp : p = a
  · subst hp
    rw [up_eq, up_eq]
    have ha := h p
    have hb := h b
    unfold mx fF
    split <;> split <;> omega
  · rw [up_ne hp, up_ne hp]
    have := h p
    omega
theorem relF_rx {w : Nat → Int} {c r : Nat} {V V' : Nat → Int} (hc : c ≤ 900) (hh : oR w (r : Int) 2 ≤ 9) (h : relF c V V') : relF (c + 2) (rx (rA w) (rB w) (fF w) r V) (rx (rA w) (rB w) (fF w) r V') :=
  relF_half (c := c + 1) (by omega) hh (relF_half (c := c) (by omega) hh h)
theorem relF_rnd {w : Nat → Int} {n c : Nat} {V V' : Nat → Int} (hC : WC n w) (hR : WR w) (hc : c ≤ 800) (h : relF c V V') : relF (c + 32) (rnd (rA w) (rB w) (fF w) (w 2).toNat V) (rnd (rA w) (rB w) (fF w) (w 2).toNat V') := by
  have c2 := hC.2.2.1
  have key : ∀ m, m ≤ (w 2).toNat → relF (c + 2 * m) (fo (fun r V => rx (rA w) (rB w) (fF w) r V) m 0 V) (fo (fun r V => rx (rA w) (rB w) (fF w) r V) m 0 V') := by
    intro m
    induction m with
    | zero => intro _; exact h
    | succ m ih =>
      intro hm
      rw [fo_s, fo_s, Nat.zero_add]
      have hr := (hR m (by omega) (by omega)).2.2.2.1
      exact relF_rx (c := c + 2 * m) (by omega) (by omega) (ih (by omega))
  have := key (w 2).toNat (Nat.le_refl _)
  intro p
  have hp := this p
  unfold rnd
  omega
theorem relF_rnds {w : Nat → Int} {n : Nat} (hC : WC n w) (hR : WR w) : ∀ (k c : Nat) (V V' : Nat → Int), c + 32 * k ≤ 400 → relF c V V' → relF (c + 32 * k) (rnds (rA w) (rB w) (fF w) (w 2).toNat k V) (rnds (rA w) (rB w) (fF w) (w 2).toNat k V')
  | 0, c, V, V', _, h => h
  | k + 1, c, V, V', hc, h => by
    have := relF_rnds hC hR k (c + 32) _ _ (by omega) (relF_rnd hC hR (by omega) h)
    rw [show c + 32 * (k + 1) = c + 32 + 32 * k by omega]
    exact this
/-- what the class measures and what the reference lays -/
theorem cF_dF {w : Nat → Int} {n a p : Nat} (hC : WC n w) (hR : WR w) (ha : (a : Int) < w 0) (hp : (p : Int) < w 0) : (farF w a p = dF w a p ∧ 0 ≤ dF w a p ∧ dF w a p ≤ 9000) ∨ (farF w a p = 1000000 ∧ dF w a p = 100000) := by
  have c0 := hC.1
  have c2 := hC.2.2.1
  have e1 : rnds (rA w) (rB w) (fF w) (w 2).toNat 10 (v0F 1000000 a) p = rnds (rA w) (rB w) (fF w) (w 2).toNat (w 0).toNat (v0F 1000000 a) p :=
    rnds_eq (P := (w 0).toNat) (fun r x => by unfold fF; omega) (fun r hr => by
      obtain ⟨ea, eb, la, lb, -⟩ := rAB hC hR (r := r) (by omega)
      omega) (fun r x y h => by unfold fF; omega) (v0F 1000000 a) (by omega) p (by omega)
  have h0 : relF 0 (v0F 1000000 a) (v0F 100000 a) := fun q => by
    unfold v0F
    by_cases hq : q = a
    · rw [if_pos hq, if_pos hq]; omega
    · rw [if_neg hq, if_neg hq]; omega
  have := relF_rnds hC hR (w 0).toNat 0 _ _ (by omega) h0 p
  unfold farF dF
  rw [e1]
  omega
