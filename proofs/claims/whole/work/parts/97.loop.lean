/-! ===== THE LOOP OF THE LAW: if each case keeps what is kept, it ends with true ===== -/
theorem bif_or {P : OR → Prop} {b : Bool} {x y : OR} (h1 : P x) (h2 : P y) : P (bif b then x else y) := by cases b with
  | true => exact h1
  | false => exact h2
def caseJ (Z : Nat × (Nat → Int)) (Kb : Int → MM → OR) (v4 : Int) (M : MM) : Nat → OR
  | 0 => drv_main_J208 Z Kb v4 M
  | 1 => drv_main_J281 Z Kb v4 M
  | 2 => drv_main_J306 Z Kb v4 M
  | 3 => drv_main_J350 Z Kb v4 M
  | 4 => drv_main_J394 Z Kb v4 M
  | 5 => drv_main_J407 Z Kb v4 M
  | 6 => drv_main_J475 Z Kb v4 M
  | 7 => drv_main_J543 Z Kb v4 M
  | 8 => drv_main_J611 Z Kb v4 M
  | 9 => drv_main_J679 Z Kb v4 M
  | 10 => drv_main_J735 Z Kb v4 M
  | 11 => drv_main_J803 Z Kb v4 M
  | 12 => drv_main_J878 Z Kb v4 M
  | 13 => drv_main_J934 Z Kb v4 M
  | 14 => drv_main_J990 Z Kb v4 M
  | 15 => drv_main_J1046 Z Kb v4 M
  | 16 => drv_main_J1102 Z Kb v4 M
  | 17 => drv_main_J1158 Z Kb v4 M
  | 18 => drv_main_J1214 Z Kb v4 M
  | 19 => drv_main_J1270 Z Kb v4 M
  | 20 => drv_main_J1326 Z Kb v4 M
  | 21 => drv_main_J1382 Z Kb v4 M
  | 22 => drv_main_J1454 Z Kb v4 M
  | 23 => drv_main_J1538 Z Kb v4 M
  | 24 => drv_main_J1551 Z Kb v4 M
  | 25 => drv_main_J1619 Z Kb v4 M
  | 26 => drv_main_J1675 Z Kb v4 M
  | 27 => drv_main_J1771 Z Kb v4 M
  | 28 => drv_main_J1839 Z Kb v4 M
  | 29 => drv_main_J1864 Z Kb v4 M
  | 30 => drv_main_J1920 Z Kb v4 M
  | 31 => drv_main_J1992 Z Kb v4 M
  | 32 => drv_main_J2132 Z Kb v4 M
  | 33 => drv_main_J2188 Z Kb v4 M
  | 34 => drv_main_J2256 Z Kb v4 M
  | 35 => drv_main_J2269 Z Kb v4 M
  | 36 => drv_main_J2280 Z Kb v4 M
  | 37 => drv_main_J2293 Z Kb v4 M
  | _ => Kb (v4 + 6) M
theorem main_loop {Z : Nat × (Nat → Int)} {I : Nat → MM → Prop} (hZ : Z.1 ≤ 3072) (H : ∀ (j k : Nat) (M : MM) (Kb : Int → MM → OR), j < 39 → I k M → 6 * k + 6 ≤ Z.1 → ∃ M', I (k + 1) M' ∧ caseJ Z Kb ((6 * k : Nat) : Int) M j = Kb (((6 * k : Nat) : Int) + 6) M') :
    ∀ (i F k : Nat) (M : MM), I k M → Z.1 ≤ 6 * (k + i) + 5 → k + i ≤ 100000 → ∃ M', drv_main_L23 Z (F + 1 + i) ((6 * k : Nat) : Int) M = some (rI 1, M')
  | 0, F, k, M, hI, hk, hb => by
    refine ⟨M, ?_⟩
    show drv_main_L23 Z (F + 1) _ M = _
    unfold drv_main_L23
    rw [bif_t (by rw [cq_gt (by omega) (by omega)]; exact decide_eq_true (by omega))]
  | i + 1, F, k, M, hI, hk, hb => by
    show ∃ M', drv_main_L23 Z ((F + 1 + i) + 1) _ M = _
    unfold drv_main_L23
    by_cases hl : Z.1 < 6 * k + 6
    · refine ⟨M, ?_⟩
      rw [bif_t (by rw [cq_gt (by omega) (by omega)]; exact decide_eq_true (by omega))]
    · rw [bif_f (by rw [cq_gt (by omega) (by omega)]; exact decide_eq_false (by omega)), bif_t (inB_n (by omega))]
      have h6 : ((6 * k : Nat) : Int) + 6 = ((6 * (k + 1) : Nat) : Int) := by omega
      have go : ∀ M1, I (k + 1) M1 → ∃ M', drv_main_L23 Z (F + 1 + i) (((6 * k : Nat) : Int) + 6) M1 = some (rI 1, M') := fun M1 h1 => by
        rw [h6]
        exact main_loop hZ H i F (k + 1) M1 h1 (by omega) (by omega)
      have cs : ∀ j, j < 39 → ∃ M', caseJ Z (drv_main_L23 Z (F + 1 + i)) ((6 * k : Nat) : Int) M j = some (rI 1, M') := fun j hj => by
        obtain ⟨M1, h1, e1⟩ := H j k M (drv_main_L23 Z (F + 1 + i)) hj hI (by omega)
        rw [e1]
        exact go M1 h1
      refine bif_or (P := fun r => ∃ M', r = some (rI 1, M')) (cs 0 (by omega)) ?_
      refine bif_or (P := fun r => ∃ M', r = some (rI 1, M')) (cs 1 (by omega)) ?_
      refine bif_or (P := fun r => ∃ M', r = some (rI 1, M')) (cs 2 (by omega)) ?_
      refine bif_or (P := fun r => ∃ M', r = some (rI 1, M')) (cs 3 (by omega)) ?_
      refine bif_or (P := fun r => ∃ M', r = some (rI 1, M')) (cs 4 (by omega)) ?_
      refine bif_or (P := fun r => ∃ M', r = some (rI 1, M')) (cs 5 (by omega)) ?_
      refine bif_or (P := fun r => ∃ M', r = some (rI 1, M')) (cs 6 (by omega)) ?_
      refine bif_or (P := fun r => ∃ M', r = some (rI 1, M')) (cs 7 (by omega)) ?_
      refine bif_or (P := fun r => ∃ M', r = some (rI 1, M')) (cs 8 (by omega)) ?_
      refine bif_or (P := fun r => ∃ M', r = some (rI 1, M')) (cs 9 (by omega)) ?_
      refine bif_or (P := fun r => ∃ M', r = some (rI 1, M')) (cs 10 (by omega)) ?_
      refine bif_or (P := fun r => ∃ M', r = some (rI 1, M')) (cs 11 (by omega)) ?_
      refine bif_or (P := fun r => ∃ M', r = some (rI 1, M')) (cs 12 (by omega)) ?_
      refine bif_or (P := fun r => ∃ M', r = some (rI 1, M')) (cs 13 (by omega)) ?_
      refine bif_or (P := fun r => ∃ M', r = some (rI 1, M')) (cs 14 (by omega)) ?_
      refine bif_or (P := fun r => ∃ M', r = some (rI 1, M')) (cs 15 (by omega)) ?_
      refine bif_or (P := fun r => ∃ M', r = some (rI 1, M')) (cs 16 (by omega)) ?_
      refine bif_or (P := fun r => ∃ M', r = some (rI 1, M')) (cs 17 (by omega)) ?_
      refine bif_or (P := fun r => ∃ M', r = some (rI 1, M')) (cs 18 (by omega)) ?_
      refine bif_or (P := fun r => ∃ M', r = some (rI 1, M')) (cs 19 (by omega)) ?_
      refine bif_or (P := fun r => ∃ M', r = some (rI 1, M')) (cs 20 (by omega)) ?_
      refine bif_or (P := fun r => ∃ M', r = some (rI 1, M')) (cs 21 (by omega)) ?_
      refine bif_or (P := fun r => ∃ M', r = some (rI 1, M')) (cs 22 (by omega)) ?_
      refine bif_or (P := fun r => ∃ M', r = some (rI 1, M')) (cs 23 (by omega)) ?_
      refine bif_or (P := fun r => ∃ M', r = some (rI 1, M')) (cs 24 (by omega)) ?_
      refine bif_or (P := fun r => ∃ M', r = some (rI 1, M')) (cs 25 (by omega)) ?_
      refine bif_or (P := fun r => ∃ M', r = some (rI 1, M')) (cs 26 (by omega)) ?_
      refine bif_or (P := fun r => ∃ M', r = some (rI 1, M')) (cs 27 (by omega)) ?_
      refine bif_or (P := fun r => ∃ M', r = some (rI 1, M')) (cs 28 (by omega)) ?_
      refine bif_or (P := fun r => ∃ M', r = some (rI 1, M')) (cs 29 (by omega)) ?_
      refine bif_or (P := fun r => ∃ M', r = some (rI 1, M')) (cs 30 (by omega)) ?_
      refine bif_or (P := fun r => ∃ M', r = some (rI 1, M')) (cs 31 (by omega)) ?_
      refine bif_or (P := fun r => ∃ M', r = some (rI 1, M')) (cs 32 (by omega)) ?_
      refine bif_or (P := fun r => ∃ M', r = some (rI 1, M')) (cs 33 (by omega)) ?_
      refine bif_or (P := fun r => ∃ M', r = some (rI 1, M')) (cs 34 (by omega)) ?_
      refine bif_or (P := fun r => ∃ M', r = some (rI 1, M')) (cs 35 (by omega)) ?_
      refine bif_or (P := fun r => ∃ M', r = some (rI 1, M')) (cs 36 (by omega)) ?_
      refine bif_or (P := fun r => ∃ M', r = some (rI 1, M')) (cs 37 (by omega)) ?_
      exact cs 38 (by omega)
