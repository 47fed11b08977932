/-! ===== THE REFERENCE SPREADS, SEARCHES ===== -/
section SrchS
variable {w : Nat → Int} {m : Nat} {N0 : MM}
theorem b2_eq0 {o : Bool} {x y : OR} : (bif cmpB .eq (b2 (!o)) 0 then x else y) = bif o then x else y := by cases o <;> rfl
/-- one loop of a spread, told by its step -/
theorem r_loop {s : Nat} {L : Nat → Int → Int → MM → OR} {K : Int → MM → OR} {P : Nat} {G : Nat → Nat → Prop} (h0 : ∀ F i N n f, i < P → SR w N0 N n f true → L (F + 1) 0 (i : Int) N = L F 0 ((i : Int) + 1) N) (hs : ∀ F i N n f, i < P → SR w N0 N n f false → ∃ N' n' f' o', L (F + 1) 1 (i : Int) N = L F (b2 (!o')) ((i : Int) + 1) N' ∧ SR w N0 N' n' f' o' ∧ Ext n f false n' f' o' ∧ ∀ u, G i u → Cov n' f' o' u) (he : ∀ F v N n f o, SR w N0 N n f o → L (F + 1) v (P : Int) N = K v N) (hP : P < 1000000) {N : MM} {n : Nat} {f : Nat → Nat} {o : Bool} (H : SR w N0 N n f o) :
    ∃ N' n' f' o', L FU (b2 (!o)) 0 N = K (b2 (!o')) N' ∧ SR w N0 N' n' f' o' ∧ Ext n f o n' f' o' ∧ ∀ j u, j < P → G j u → Cov n' f' o' u := by
  have loop := walk_loop (S := SR w N0) (L := fun F o i N => L F (b2 (!o)) i N) (K := fun o N => K (b2 (!o)) N) (N := P) (G := G) (fun F i N n f o hi HS => ?_) (fun F N n f o HS => he F _ N n f o HS) P FU 0 N n f o (by omega) (FU_gt hP) H
  · obtain ⟨N', n', f', o', b1, b2', b3, b4⟩ := loop
    exact ⟨N', n', f', o', b1, b2', b3, fun j u hj hu => b4 j u (Nat.zero_le _) hj hu⟩
  · cases o with
    | true => exact ⟨N, n, f, true, h0 F i N n f hi HS, HS, Ext.rf, fun u _ => Or.inl rfl⟩
    | false => exact hs F i N n f hi HS
theorem spreads_b (hW : WF m w) (hm : m ≤ 1000) (hO : LwOK w) (hz : w 0 ≠ 0) {s n : Nat} {f : Nat → Nat} {N : MM} (hs : Rch w s) (H : SR w N0 N n f false) : ∃ N' n' f' o', (∀ k : Int → MM → OR, bI (mo_spreads (s : Int) N) k = k (b2 (!o')) N') ∧ SR w N0 N' n' f' o' ∧ Ext n f false n' f' o' ∧ ∀ u, Suc w s u → Cov n' f' o' u := by
  have hG := GS_rch hW hz hs
  have hW' := hW
  obtain ⟨hC, hP, hT, hR, hB, hWG, -⟩ := hW'
  have c0 := hC.1
  have c1 := hC.2.1
  have c2 := hC.2.2.1
  have c3 := hC.2.2.2.1
  have hf := fd_lt s 0 5
  have c32 : (2 : Nat) ^ 5 = 32 := rfl
  have roads : ∀ (K : Int → MM → OR) (N : MM) (n : Nat) (f : Nat → Nat) (o : Bool), SR w N0 N n f o → ∃ N' n' f' o', mo_spreads_L30 (s : Int) K FU (b2 (!o)) 0 N = K (b2 (!o')) N' ∧ SR w N0 N' n' f' o' ∧ Ext n f o n' f' o' ∧ ∀ r u : Nat, (r : Int) < w 2 → sGo w s r = some u → Cov n' f' o' u := by
    intro K N n f o H
    have := r_loop (s := s) (w := w) (N0 := N0) (L := fun F v i N => mo_spreads_L30 (s : Int) K F v i N) (K := K) (P := (w 2).toNat) (G := fun r u => sGo w s (r : Int) = some u) (fun F i N n f hi HS => ?_) (fun F i N n f hi HS => ?_) (fun F v N n f o HS => ?_) (by omega) H
    · obtain ⟨N', n', f', o', a1, a2, a3, a4⟩ := this
      exact ⟨N', n', f', o', a1, a2, a3, fun r u hr hu => a4 r u (by omega) hu⟩
    · rw [mo_spreads_L30, mo_roads_b, HS.2.1, bq_ge (by omega) (by omega), if_neg (by omega), bq_eq (by decide) (by decide), if_pos rfl]
    · have hw := HS.2.1
      subst hw
      obtain ⟨N1, a1, a2⟩ := mo_goes_b (r := i) (k := fun z_9 M_8 => (bI (mo_isMet z_9 M_8) fun z_12 M_11 => (bif cmpB .eq z_12 0 then (mo_spreads_L30 (s : Int) K F 0 ((i : Int) + 1) M_11) else (mo_spreads_L30 (s : Int) K F 1 ((i : Int) + 1) M_11)))) hC hP hR hT hO hm hG.1 hG.2.1.1 (by omega)
      obtain ⟨N2, n2, f2, o2, b1, b2', b3, b4, b5⟩ := met_r (op := sGo (N 166) s (i : Int)) hW hz (SR_ts a2 HS) (fun u hu => Rch_suc hs (Or.inr (Or.inl ⟨i, by omega, hu⟩)))
      refine ⟨N2, n2, f2, o2, ?_, b2', b3, b5⟩
      rw [mo_spreads_L30, mo_roads_b, bq_ge (by omega) (by omega), if_neg (by omega), bq_eq (by decide) (by decide), if_neg (by decide), a1, b1, b2_eq0]
      cases o2 <;> rfl
    · rw [mo_spreads_L30, mo_roads_b, HS.2.1, bq_ge (by omega) (by omega), if_pos (by omega)]
  have things : ∀ (K : Int → MM → OR) (N : MM) (n : Nat) (f : Nat → Nat) (o : Bool), SR w N0 N n f o → ∃ N' n' f' o', mo_spreads_L72 (s : Int) K FU (b2 (!o)) 0 N = K (b2 (!o')) N' ∧ SR w N0 N' n' f' o' ∧ Ext n f o n' f' o' ∧ ∀ t u : Nat, (t : Int) < w 1 → (sPy w s t = some u ∨ sTk w s t = some u) → Cov n' f' o' u := by
    intro K N n f o H
    have := r_loop (s := s) (w := w) (N0 := N0) (L := fun F v i N => mo_spreads_L72 (s : Int) K F v i N) (K := K) (P := (w 1).toNat) (G := fun t u => sPy w s t = some u ∨ sTk w s t = some u) (fun F i N n f hi HS => ?_) (fun F i N n f hi HS => ?_) (fun F v N n f o HS => ?_) (by omega) H
    · obtain ⟨N', n', f', o', a1, a2, a3, a4⟩ := this
      exact ⟨N', n', f', o', a1, a2, a3, fun r u hr hu => a4 r u (by omega) hu⟩
    · rw [mo_spreads_L72, mo_things_b, HS.2.1, bq_ge (by omega) (by omega), if_neg (by omega), bq_eq (by decide) (by decide), if_pos rfl]
    · have hw := HS.2.1
      have hi1 : (i : Int) < w 1 := by omega
      obtain ⟨N2, n2, f2, o2, b1, b2', b3, b4, b5⟩ := met_r (op := sPy w s i) hW hz HS (fun u hu => Rch_suc hs (Or.inr (Or.inr (Or.inl ⟨i, hi1, Or.inl hu⟩))))
      have e1 : ∀ k : Int → MM → OR, bJ (mo_pays (s : Int) (i : Int) N) k = k (oJ (sPy w s i)) N := fun k => by
        have := mo_pays_b (N := N) (n := m) (s := s) (t := i) (k := k) (by rw [hw]; exact hC) (by rw [hw]; exact hP) hG.1 (by rw [hw]; exact hG.2.1.1) (by rw [hw]; exact hi1)
        rw [hw] at this
        exact this
      cases o2 with
      | true =>
        refine ⟨N2, n2, f2, true, ?_, b2', b3, fun u _ => Or.inl rfl⟩
        rw [mo_spreads_L72, mo_things_b, hw, bq_ge (by omega) (by omega), if_neg (by omega), bq_eq (by decide) (by decide), if_neg (by decide), e1, b1, b2_eq0, cn_t]; rfl
      | false =>
        have hw2 := b2'.2.1
        obtain ⟨N3, n3, f3, o3, d1, d2, d3, d4, d5⟩ := met_r (op := sTk w s i) hW hz b2' (fun u hu => Rch_suc hs (Or.inr (Or.inr (Or.inl ⟨i, hi1, Or.inr hu⟩))))
        have e2 : ∀ k : Int → MM → OR, bJ (mo_takes (s : Int) (i : Int) N2) k = k (oJ (sTk w s i)) N2 := fun k => by
          have := mo_takes_b (N := N2) (n := m) (s := s) (t := i) (k := k) (by rw [hw2]; exact hC) (by rw [hw2]; exact hT) hG.1 (by rw [hw2]; exact hi1)
          rw [hw2] at this
          exact this
        refine ⟨N3, n3, f3, o3, ?_, d2, b3.tr d3, fun u hu => ?_⟩
        · rw [mo_spreads_L72, mo_things_b, hw, bq_ge (by omega) (by omega), if_neg (by omega), bq_eq (by decide) (by decide), if_neg (by decide), e1, b1, b2_eq0, cn_f, e2, d1, b2_eq0]
          cases o3 <;> rfl
        · rcases hu with hu | hu
          · exact (b5 u hu).up d3
          · exact d5 u hu
    · rw [mo_spreads_L72, mo_things_b, HS.2.1, bq_ge (by omega) (by omega), if_pos (by omega)]
  have bros : ∀ (K : Int → MM → OR) (N : MM) (n : Nat) (f : Nat → Nat) (o : Bool), SR w N0 N n f o → ∃ N' n' f' o', mo_spreads_L128 (s : Int) K FU (b2 (!o)) 0 N = K (b2 (!o')) N' ∧ SR w N0 N' n' f' o' ∧ Ext n f o n' f' o' ∧ ∀ b u : Nat, (b : Int) < w 3 → sFr w s b = some u → Cov n' f' o' u := by
    intro K N n f o H
    have := r_loop (s := s) (w := w) (N0 := N0) (L := fun F v i N => mo_spreads_L128 (s : Int) K F v i N) (K := K) (P := (w 3).toNat) (G := fun b u => sFr w s b = some u) (fun F i N n f hi HS => ?_) (fun F i N n f hi HS => ?_) (fun F v N n f o HS => ?_) (by omega) H
    · obtain ⟨N', n', f', o', a1, a2, a3, a4⟩ := this
      exact ⟨N', n', f', o', a1, a2, a3, fun r u hr hu => a4 r u (by omega) hu⟩
    · rw [mo_spreads_L128, mo_brothers_b, HS.2.1, bq_ge (by omega) (by omega), if_neg (by omega), bq_eq (by decide) (by decide), if_pos rfl]
    · have hw := HS.2.1
      have hi3 : (i : Int) < w 3 := by omega
      obtain ⟨N2, n2, f2, o2, b1, b2', b3, b4, b5⟩ := met_r (op := sFr w s i) hW hz HS (fun u hu => Rch_suc hs (Or.inr (Or.inr (Or.inr ⟨i, hi3, hu⟩))))
      have e1 : ∀ k : Int → MM → OR, bJ (mo_frees (s : Int) (i : Int) N) k = k (oJ (sFr w s i)) N := fun k => by
        have := mo_frees_b (N := N) (n := m) (s := s) (b := i) (k := k) (by rw [hw]; exact hC) (by rw [hw]; exact hB) hG.1 (by rw [hw]; exact hi3)
        rw [hw] at this
        exact this
      refine ⟨N2, n2, f2, o2, ?_, b2', b3, b5⟩
      rw [mo_spreads_L128, mo_brothers_b, hw, bq_ge (by omega) (by omega), if_neg (by omega), bq_eq (by decide) (by decide), if_neg (by decide), e1, b1, b2_eq0]
      cases o2 <;> rfl
    · rw [mo_spreads_L128, mo_brothers_b, HS.2.1, bq_ge (by omega) (by omega), if_pos (by omega)]
  have J : ∀ (N : MM) (n : Nat) (f : Nat → Nat) (o : Bool), SR w N0 N n f o → ∃ N' n' f' o', mo_spreads_J26 (s : Int) (b2 (!o)) N = some (rI (b2 (!o')), N') ∧ SR w N0 N' n' f' o' ∧ Ext n f o n' f' o' ∧ (∀ r u : Nat, (r : Int) < w 2 → sGo w s r = some u → Cov n' f' o' u) ∧ (∀ t u : Nat, (t : Int) < w 1 → (sPy w s t = some u ∨ sTk w s t = some u) → Cov n' f' o' u) ∧ ∀ b u : Nat, (b : Int) < w 3 → sFr w s b = some u → Cov n' f' o' u := by
    intro N n f o H
    obtain ⟨Na, na, fa, oa, a1, a2, a3, a4⟩ := roads (fun v3_13 M_14 => (mo_spreads_L72 (s : Int) (fun v3_31 M_32 => (mo_spreads_L128 (s : Int) (fun v3_43 M_44 => (bif zo v3_43 then some (rI v3_43, M_44) else none)) FU v3_31 0 M_32)) FU v3_13 0 M_14)) N n f o H
    obtain ⟨Nb, nb, fb, ob, b1, b2', b3, b4⟩ := things (fun v3_31 M_32 => (mo_spreads_L128 (s : Int) (fun v3_43 M_44 => (bif zo v3_43 then some (rI v3_43, M_44) else none)) FU v3_31 0 M_32)) Na na fa oa a2
    obtain ⟨Nc, nc, fc, oc, d1, d2, d3, d4⟩ := bros (fun v3_43 M_44 => (bif zo v3_43 then some (rI v3_43, M_44) else none)) Nb nb fb ob b2'
    refine ⟨Nc, nc, fc, oc, ?_, d2, a3.tr (b3.tr d3), fun r u hr hu => (a4 r u hr hu).up (b3.tr d3), fun t u ht hu => (b4 t u ht hu).up d3, d4⟩
    unfold mo_spreads_J26
    rw [a1, b1, d1, bz_zo]
  unfold mo_spreads
  rw [mo_hoursOf_b hG.1, bq_eq (by omega) (by decide)]
  by_cases h30 : ((fd s 0 5 : Nat) : Int) = 30
  · obtain ⟨N', n', f', o', a1, a2, a3, a4, a5, a6⟩ := J N n f false H
    refine ⟨N', n', f', o', fun k => ?_, a2, a3, fun u hu => ?_⟩
    · rw [if_pos h30]
      unfold mo_spreads_J21
      rw [show mo_spreads_J26 (s : Int) 1 N = _ from a1, bI_I]
    · rcases hu with ⟨hne, hw⟩ | ⟨r, hr, hgo⟩ | ⟨t, ht, hpt⟩ | ⟨b, hb', hfr⟩
      · exact absurd (by omega) hne
      · exact a4 r u hr hgo
      · exact a5 t u ht hpt
      · exact a6 b u hb' hfr
  · have hw := H.2.1
    have ew : (if eatB w (sPl s) (sTm w s + 1) = true then -1 else ((s + 1 : Nat) : Int)) = oJ (sWt w s) := by
      unfold sWt
      by_cases he : eatB w (sPl s) (sTm w s + 1) = true
      · rw [if_pos he, if_pos he]; rfl
      · rw [if_neg he, if_neg he]; rfl
    have e1 : ∀ k : Int → MM → OR, bJ (mo_waits (s : Int) N) k = k (oJ (sWt w s)) N := fun k => by
      have := mo_waits_b (N := N) (n := m) (s := s) (k := k) (by rw [hw]; exact hC) (by rw [hw]; exact hP) hm hG.1 (by rw [hw]; exact hG.2.1.1)
      rw [hw, ew] at this
      exact this
    obtain ⟨N2, n2, f2, o2, b1, b2', b3, b4, b5⟩ := met_r (op := sWt w s) hW hz H (fun u hu => Rch_suc hs (Or.inl ⟨by omega, hu⟩))
    obtain ⟨N', n', f', o', a1, a2, a3, a4, a5, a6⟩ := J N2 n2 f2 o2 b2'
    refine ⟨N', n', f', o', fun k => ?_, a2, b3.tr a3, fun u hu => ?_⟩
    · rw [if_neg h30, e1, b1, b2_eq0]
      cases o2 with
      | true =>
        rw [cn_t, show mo_spreads_J26 (s : Int) 0 N2 = _ from a1, bI_I]
      | false =>
        rw [cn_f]
        unfold mo_spreads_J21
        rw [show mo_spreads_J26 (s : Int) 1 N2 = _ from a1, bI_I]
    · rcases hu with ⟨hne, hw'⟩ | ⟨r, hr, hgo⟩ | ⟨t, ht, hpt⟩ | ⟨b, hb', hfr⟩
      · exact (b5 u hw').up a3
      · exact a4 r u hr hgo
      · exact a5 t u ht hpt
      · exact a6 b u hb' hfr
theorem r_run {K : Int → MM → OR} (hW : WF m w) (hm : m ≤ 1000) (hO : LwOK w) (hz : w 0 ≠ 0) : ∀ (d i F : Nat) (N : MM) (n : Nat) (f : Nat → Nat) (o : Bool), i + d = 6001 → d < F → SR w N0 N n f o → (o = false → i ≤ n) → (o = false → ∀ j, j < i → ∀ u, Suc w (f j) u → Cov n f o u) →
    ∃ N' n' f' o', mo_searches_L38 K F (b2 (!o)) (i : Int) N = K (b2 (!o')) N' ∧ SR w N0 N' n' f' o' ∧ Ext n f o n' f' o' ∧ (o' = true ∨ ∀ j, j < n' → ∀ u, Suc w (f' j) u → Cov n' f' o' u)
  | 0, i, F, N, n, f, o, hd, hF, H, hi, hc => by
    obtain ⟨F, rfl⟩ : ∃ n, F = n + 1 := ⟨F - 1, by omega⟩
    have hn := H.1.1.2
    have h25 := H.1.1.1
    refine ⟨N, n, f, o, ?_, H, Ext.rf, ?_⟩
    · rw [mo_searches_L38, h25, bq_ge (by omega) (by omega), if_pos (by omega)]
    · cases o with
      | true => exact Or.inl rfl
      | false => exact absurd (hi rfl) (by omega)
  | d + 1, i, F, N, n, f, o, hd, hF, H, hi, hc => by
    obtain ⟨F, rfl⟩ : ∃ n, F = n + 1 := ⟨F - 1, by omega⟩
    have hn := H.1.1.2
    have h25 := H.1.1.1
    rw [mo_searches_L38, h25, bq_ge (by omega) (by omega)]
    by_cases g1 : (n : Int) ≤ i
    · rw [if_pos g1]
      refine ⟨N, n, f, o, rfl, H, Ext.rf, ?_⟩
      cases o with
      | true => exact Or.inl rfl
      | false => exact Or.inr fun j hj => hc rfl j (by omega)
    · rw [if_neg g1, b2_eq0]
      cases o with
      | true =>
        rw [cn_t]
        exact ⟨N, n, f, true, rfl, H, Ext.rf, Or.inl rfl⟩
      | false =>
        have hin : i < n := by omega
        have e1 := H.1.2.1 i hin
        have hs := H.1.2.2.2.1 i hin
        obtain ⟨N2, n2, f2, o2, a1, a2, a3, a4⟩ := spreads_b hW hm hO hz hs H
        obtain ⟨N', n', f', o', z1, z2, z3, z4⟩ := r_run (K := K) hW hm hO hz d (i + 1) F N2 n2 f2 o2 (by omega) (by omega) a2 (fun _ => Nat.le_trans (by omega : i + 1 ≤ n) a3.1) (fun _ j hj u hu => by
          rw [a3.2.1 j (by omega)] at hu
          by_cases ej : j = i
          · rw [ej] at hu
            exact a4 u hu
          · exact (hc rfl j (by omega) u hu).up a3)
        refine ⟨N', n', f', o', ?_, z2, a3.tr z3, z4⟩
        rw [cn_f, bq_in (by omega) (by omega), Int.toNat_natCast, e1, a1, show (i : Int) + 1 = ((i + 1 : Nat) : Int) by omega]
        exact z1
/-- what the reference has found -/
theorem searches_b {N : MM} {k : Int → MM → OR} (hW : WF m (N 166)) (hm : m ≤ 1000) (hO : LwOK (N 166)) (hz : N 166 0 ≠ 0) : ∃ N' o, bI (mo_searches N) k = k (b2 (!o)) N' ∧ FrR N N' ∧ (o = true → Big (N 166)) ∧ (o = false → ∃ n f, N' 165 25 = ((n : Nat) : Int) ∧ AllR (N 166) n f ∧ (∀ i, i < n → N' 173 i = ((f i : Nat) : Int)) ∧ 0 < n ∧ f 0 = nowS (N 166)) := by
  obtain ⟨w, hw⟩ : ∃ w, w = N 166 := ⟨_, rfl⟩
  rw [← hw] at hW hO hz ⊢
  have hW' := hW
  obtain ⟨hC, hP, hT, hR, hB, hWG, -⟩ := hW'
  obtain ⟨A, hA⟩ : ∃ A, A = flM N 174 0 (0 + 16384) (fun _ => 0) := ⟨_, rfl⟩
  have L2 : ∀ K : MM → OR, mo_searches_L2 K FU 0 N = K A := by
    intro K
    have := fl_run0 (L := fun F i M => mo_searches_L2 K F i M) (K := K) (M := N) (a := 174) (o := 0) (N := 16384) (F := FU) (f := fun _ => 0) (FU_gt (by decide)) (fun F i hi => ?_) (fun F => ?_)
    · rw [← hA] at this
      exact this
    · rw [mo_searches_L2, bq_ge (by omega) (by decide), if_neg (by omega), bq_in (by omega) (by omega), sM_eq, Int.toNat_natCast, Nat.zero_add]
    · rw [mo_searches_L2, bq_ge (by omega) (by decide), if_pos (by omega)]
  obtain ⟨D, hD⟩ : ∃ D, D = mU A 165 25 0 := ⟨_, rfl⟩
  have dF : ∀ p, p ≠ 165 → p ≠ 174 → D p = N p := fun p a b => by rw [hD, mU_ne a, hA, flM_ne b]
  have d25 : D 165 25 = 0 := by rw [hD, mU_ap, if_pos rfl, if_pos rfl]
  have d165 : ∀ j, j ≠ 25 → D 165 j = N 165 j := fun j hj => by rw [hD, mU_ap, if_pos rfl, if_neg hj, hA, flM_ne (by decide)]
  have d174 : ∀ s, s < 16384 → D 174 s = 0 := fun s hs => by
    rw [hD, mU_ne (by decide), hA, flM_ap, if_pos (by omega)]
  have dw : D 166 = w := by rw [dF 166 (by decide) (by decide), hw]
  have SD : SR w N D 0 (fun _ => 0) false := ⟨⟨⟨d25, by decide⟩, fun i hi => absurd hi (Nat.not_lt_zero i), HT_0 d174, fun i hi => absurd hi (Nat.not_lt_zero i), fun i j hi => absurd hi (Nat.not_lt_zero i), fun h => absurd h (by decide)⟩, dw, ⟨fun p a _ _ b => dF p a b, fun j _ a => d165 j a⟩⟩
  obtain ⟨N2, n2, f2, o2, b1, b2', b3, b4, b5⟩ := met_r (op := some (nowS w)) hW hz SD (fun u hu => by
    obtain rfl := Option.some.inj hu
    exact Rch_now)
  obtain ⟨N', n', f', o', z1, z2, z3, z4⟩ := r_run (K := fun v1_17 M_18 => (bif zo v1_17 then some (rI v1_17, M_18) else none)) hW hm hO hz 6001 0 FU N2 n2 f2 o2 rfl (FU_gt (by decide)) b2' (fun _ => Nat.zero_le _) (fun _ j hj => absurd hj (Nat.not_lt_zero j))
  refine ⟨N', o', ?_, z2.2.2, z2.1.2.2.2.2.2, fun ho => ?_⟩
  · have en : ∀ kk : Int → MM → OR, bJ (mo_now D) kk = kk (oJ (some (nowS w))) D := fun kk => by
      have := mo_now_b (M := D) (n := m) (k := kk) (by rw [dw]; exact hC) (by rw [dw]; exact hP) (by rw [dw]; exact hT) (by rw [dw]; exact hB) hm
      rw [dw] at this
      exact this
    unfold mo_searches
    rw [L2, sM_eq, ← hD, en, b1, show mo_searches_L38 _ FU (b2 (!o2)) 0 N2 = _ from z1, bz_zo, bI_I]
  · subst ho
    obtain ⟨⟨⟨e1, e2⟩, e3, e4, e5, e6, e7⟩, -, -⟩ := z2
    have h0 : ∃ i, i < n2 ∧ f2 i = nowS w := by
      rcases b5 _ rfl with g | g
      · have := z3.2.2 g
        exact absurd this (by decide)
      · exact g
    obtain ⟨i, hi, hfi⟩ := h0
    obtain rfl : i = 0 := by omega
    have f0 : f' 0 = nowS w := by rw [z3.2.1 0 hi, hfi]
    have n0 : 0 < n' := Nat.lt_of_lt_of_le hi z3.1
    have cl : ∀ j, j < n' → ∀ u, Suc w (f' j) u → ∃ i, i < n' ∧ f' i = u := fun j hj u hu => by
      rcases z4 with g | g
      · exact absurd g (by decide)
      · rcases g j hj u hu with g | g
        · exact absurd g (by decide)
        · exact g
    exact ⟨n', f', e1, ⟨e2, e5, fun s hs => closed_all ⟨0, n0, f0⟩ cl hs, e6⟩, e3, n0, f0⟩
end SrchS
