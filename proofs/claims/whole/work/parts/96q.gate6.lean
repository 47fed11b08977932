/-! ===== GATE as a call ===== -/
def elG (w : Nat → Int) (n : Nat) : List Nat := (List.range n).filter (frB w)
theorem elG_s {w : Nat → Int} {n : Nat} : elG w (n + 1) = elG w n ++ (if frB w n = true then [n] else []) := by
  unfold elG
  rw [List.range_succ, List.filter_append]
  congr 1
  rw [List.filter_cons, List.filter_nil]
theorem elG_mem {w : Nat → Int} {n b : Nat} : b ∈ elG w n ↔ b < n ∧ frB w b = true := by
  unfold elG
  rw [List.mem_filter, List.mem_range]
theorem elG_srt {w : Nat → Int} {n : Nat} : (elG w n).Pairwise (· < ·) := by
  unfold elG
  exact List.Pairwise.filter _ List.pairwise_lt_range
theorem elG_len {w : Nat → Int} : ∀ n, (elG w n).length = cnt (frB w) n
  | 0 => rfl
  | n + 1 => by
    rw [elG_s, List.length_append, elG_len n]
    show _ = cnt (frB w) n + (bif frB w n then 1 else 0)
    cases frB w n <;> rfl
theorem elG_ext {w : Nat → Int} {n : Nat} (h : w 3 ≤ n) : ∀ d, elG w (n + d) = elG w n
  | 0 => rfl
  | d + 1 => by
    have hf : ¬ (frB w (n + d) = true) := fun g => by
      have := (frB_t g).1
      omega
    rw [← Nat.add_assoc, elG_s, elG_ext h d, if_neg hf, List.append_nil]
theorem gate_lay {v1 : Int} {K : Int → MM → OR} {M : MM} {w : Nat → Int} {k : Nat} (hC : WC k w) (hB : WB w) (hk : k ≤ 600) : ∀ (d F i : Nat) (N : MM), (i : Int) + d = w 3 → d < F → (∀ p, p ≠ 178 → N p = M p) → M 166 = w → RLst (elG w i) N → ∃ N', mo_gate_L9 v1 K F ((elG w i).length : Int) (i : Int) N = K ((elG w (i + d)).length : Int) N' ∧ (∀ p, p ≠ 178 → N' p = M p) ∧ RLst (elG w (i + d)) N'
  | 0, F, i, N, hi, hF, hN, hw, hR => by
    obtain ⟨f, rfl⟩ : ∃ n, F = n + 1 := ⟨F - 1, by omega⟩
    have c3 := hC.2.2.2.1
    refine ⟨N, ?_, hN, hR⟩
    rw [mo_gate_L9, mo_brothers_b, hN 166 (by decide), hw, bq_ge (by omega) (by omega), if_pos (by omega)]; rfl
  | d + 1, F, i, N, hi, hF, hN, hw, hR => by
    obtain ⟨f, rfl⟩ : ∃ n, F = n + 1 := ⟨F - 1, by omega⟩
    have c3 := hC.2.2.2.1
    have hb := hB (i : Int) (by omega) (by omega)
    have c6 := hC.2.2.2.2.2.2.1
    have hlen : (elG w i).length ≤ i := by rw [elG_len]; exact cnt_le _ _
    have nw : N 166 = w := by rw [hN 166 (by decide), hw]
    by_cases hf : frB w i = true
    · have h5 := (frB_t hf).2
      have es : elG w (i + 1) = elG w i ++ [i] := by rw [elG_s, if_pos hf]
      obtain ⟨N', q1, q2, q3⟩ := gate_lay (v1 := v1) (K := K) hC hB hk d f (i + 1) (mU N 178 (elG w i).length (i : Int)) (by omega) (by omega) (fun p hp => by rw [mU_ne hp, hN p hp]) hw (by
        rw [es]
        intro j hj
        rw [List.length_append, List.length_singleton] at hj
        rw [mU_ap, if_pos rfl]
        by_cases h2 : j = (elG w i).length
        · rw [if_pos h2, h2, lsG_e]
        · rw [if_neg h2, lsG_a (by omega)]
          exact hR j (by omega))
      refine ⟨N', ?_, q2, ?_⟩
      · rw [mo_gate_L9, mo_brothers_b, nw, bq_ge (by omega) (by omega), if_neg (by omega), mo_ofBrother_b (by omega) (by omega) (by decide) (by decide), nw, bq_ge (by omega) (by decide), if_pos h5, bq_in (by omega) (by omega), sM_eq, Int.toNat_natCast, show (i : Int) + 1 = ((i + 1 : Nat) : Int) by omega, show ((elG w i).length : Int) + 1 = ((elG w (i + 1)).length : Int) by rw [es, List.length_append, List.length_singleton]; omega]
        rw [show i + (d + 1) = i + 1 + d by omega]
        exact q1
      · rw [show i + (d + 1) = i + 1 + d by omega]
        exact q3
    · have h5 : ¬ (0 ≤ oB w (i : Int) 5) := fun g => hf (by
        unfold frB
        rw [decide_eq_true g, decide_eq_true (show (i : Int) < w 3 by omega)]; rfl)
      have es : elG w (i + 1) = elG w i := by rw [elG_s, if_neg hf, List.append_nil]
      obtain ⟨N', q1, q2, q3⟩ := gate_lay (v1 := v1) (K := K) hC hB hk d f (i + 1) N (by omega) (by omega) hN hw (by rw [es]; exact hR)
      refine ⟨N', ?_, q2, ?_⟩
      · rw [mo_gate_L9, mo_brothers_b, nw, bq_ge (by omega) (by omega), if_neg (by omega), mo_ofBrother_b (by omega) (by omega) (by decide) (by decide), nw, bq_ge (by omega) (by decide), if_neg h5, show (i : Int) + 1 = ((i + 1 : Nat) : Int) by omega]
        rw [show i + (d + 1) = i + 1 + d by omega, ← es]
        exact q1
      · rw [show i + (d + 1) = i + 1 + d by omega]
        exact q3
/-- what is found among all orders -/
def gAll (w : Nat → Int) : Int × List Nat := gW (gHm w) (gDu w) (elG w 7).length [] (elG w 7) (1000000000, [])
def gaV (w : Nat → Int) (v : Int) : Int := if v = -1 then (gAll w).1 else if 0 ≤ v ∧ v < (elG w 7).length then lsG (gAll w).2 v.toNat else -1
theorem gR_mem {R : List Nat → List Nat → Int × List Nat → Int × List Nat} {pre : List Nat} (h : ∀ b l s, (∀ x, x ∈ pre ++ [b] ++ l → x < 7) → (∀ x, x ∈ s.2 → x < 7) → ∀ x, x ∈ (R (pre ++ [b]) l s).2 → x < 7) (hp : ∀ x, x ∈ pre → x < 7) : ∀ B A s, (∀ x, x ∈ A ++ B → x < 7) → (∀ x, x ∈ s.2 → x < 7) → ∀ x, x ∈ (gR R pre A B s).2 → x < 7
  | [], A, s, hA, hs => hs
  | b :: B, A, s, hA, hs => gR_mem h hp B _ _ (fun x hx => hA x (by rw [List.append_assoc] at hx; exact hx)) (h b _ s (fun x hx => by
      simp only [List.mem_append, List.mem_cons, List.mem_nil_iff, or_false] at hx hA
      rcases hx with (g | g) | g | g
      · exact hp x g
      · exact hA x (Or.inr (Or.inl g))
      · exact hA x (Or.inl g)
      · exact hA x (Or.inr (Or.inr g))) hs)
theorem gW_mem {hm du : Nat → Int} : ∀ n pre l (s : Int × List Nat), (∀ x, x ∈ pre ++ l → x < 7) → (∀ x, x ∈ s.2 → x < 7) → ∀ x, x ∈ (gW hm du n pre l s).2 → x < 7
  | 0, pre, l, s, h, hs => by
    show ∀ x, x ∈ (gfs hm du pre s).2 → x < 7
    unfold gfs
    split
    · exact fun x hx => h x (List.mem_append_left _ hx)
    · exact hs
  | n + 1, pre, l, s, h, hs => gR_mem (fun b l s h hs => gW_mem n (pre ++ [b]) l s h hs) (fun x hx => h x (List.mem_append_left _ hx)) l [] s (fun x hx => h x (List.mem_append_right _ hx)) hs
theorem elG_7 {w : Nat → Int} : (elG w 7).length ≤ 7 := by rw [elG_len]; exact cnt_le _ _
theorem gAll_J {w : Nat → Int} {k : Nat} (hC : WC k w) (hB : WB w) (hk : k ≤ 600) : (gAll w).1 ≤ 200007 := by
  refine gW_some (elG w 7).length [] (elG w 7) _ rfl fun o ho => ?_
  have := gHT_J (z := 200000) (by decide) (gHm_J hC hB hk) (fun b => (gDu_J hB b).1) o
  have h7 := elG_7 (w := w)
  rw [List.length_nil] at ho
  omega
theorem lsG_7 {w : Nat → Int} (j : Nat) : 0 ≤ lsG (gAll w).2 j ∧ lsG (gAll w).2 j ≤ 7 := by
  by_cases h : j < (gAll w).2.length
  · obtain ⟨a, ha, e⟩ := lsG_mem h
    have := gW_mem (hm := gHm w) (du := gDu w) (elG w 7).length [] (elG w 7) (1000000000, []) (fun x hx => (elG_mem.mp hx).1) (fun x hx => absurd hx (by simp)) a ha
    omega
  · unfold lsG
    rw [List.getD_eq_getElem?_getD, List.getElem?_eq_none (by omega)]
    exact ⟨by decide, by decide⟩
theorem ok_gate {v1 : Int} (h1 : I32 v1) : OpOK0 (gh_gate v1) (mo_gate v1) := by
  refine op_read0 fun k M hk hI => ?_
  obtain ⟨-, hW, hL, hJ, -⟩ := hI
  have hB := hW.2.2.2.2.1
  have c3 := hW.1.2.2.2.1
  have hlen := elG_7 (w := M 166)
  have hall := gAll_J hW.1 hB (by omega)
  have hset : M 23 7 = ((bset 7 (frB (M 166)) : Nat) : Int) := hJ.2.2.2.2.2.1
  have hset2 : bset 7 (frB (M 166)) = bset 7 (inL (elG (M 166) 7)) := bset_cg 7 fun i hi => by
    unfold inL
    by_cases hf : frB (M 166) i = true
    · rw [hf, decide_eq_true (elG_mem.mpr ⟨hi, hf⟩)]
    · rw [decide_eq_false (fun g => hf (elG_mem.mp g).2)]
      exact Bool.eq_false_iff.mpr hf
  have hcnt : bcv (M 23 7) = ((elG (M 166) 7).length : Int) := by
    rw [hset, bcv_s (Nat.lt_of_lt_of_le (bset_lt _ 7) (by decide)), elG_len]
    congr 1
    rw [← cnt_ext (f := frB (M 166)) 10 (show 7 ≤ 10 by decide)]
    exact cnt_cg 10 fun i _ => by rw [bset_bit]
  refine ⟨gaV (M 166) v1, ?_, ?_, fun N hN e C => ?_⟩
  · have a1 := gW_inv (P := fun s => 0 ≤ s.1) (hm := gHm (M 166)) (du := gDu (M 166)) (elG (M 166) 7).length [] (elG (M 166) 7) (1000000000, []) (fun o s _ hs => by
      have := gHT_J (z := 200000) (by decide) (gHm_J hW.1 hB (by omega)) (fun b => (gDu_J hB b).1) o
      unfold gfs
      split
      · exact this.2.1
      · exact hs) (by decide)
    have a2 : 0 ≤ (gAll (M 166)).1 := a1
    have a3 := lsG_7 (w := M 166) v1.toNat
    unfold gaV
    split
    · omega
    · split <;> omega
  · unfold gh_gate ridd_gateAnswer
    rw [bc_v, bI_I, hcnt, bq_lt h1 (by decide)]
    by_cases g1 : v1 < -1
    · rw [if_pos g1, bI_I]
      refine ⟨M, ?_, Core.rfl', rfl⟩
      unfold gaV
      rw [if_neg (by omega), if_neg (by omega)]
    · rw [if_neg g1, bq_ge h1 (by omega)]
      by_cases g2 : ((elG (M 166) 7).length : Int) ≤ v1
      · rw [if_pos g2, bI_I]
        refine ⟨M, ?_, Core.rfl', rfl⟩
        unfold gaV
        rw [if_neg (by omega), if_neg (by omega)]
      · rw [if_neg g2, bq_lt h1 (by decide), if_pos (by omega), sM_eq]
        obtain ⟨M', q1, q2, q3, q4⟩ := cls_order (hm := gHm (M 166)) (du := gDu (M 166)) (N := (elG (M 166) 7).length) (z := 200000) (by decide) (gHm_J hW.1 hB (by omega)) (gDu_J hB) hlen (elG (M 166) 7).length 12 [] (elG (M 166) 7) (1000000000, []) (mU M 161 5 1000000000) (by omega) rfl (by rw [List.length_nil]; omega) elG_srt (fun b hb => (elG_mem.mp hb).1) ⟨rfl, Or.inl rfl⟩ (fun b hb => by
          have hf := (elG_mem.mp hb).2
          have f2 := frB_t hf
          have j5 := hJ.2.2.2.2.2.2.2.2.1 (b : Int) (by omega) f2.1 f2.2
          have l5 := hL.2.2.2.2.2.2 (b : Int) (by omega) f2.1
          rw [Int.toNat_natCast] at j5 l5
          rw [mU_ne (by decide), mU_ne (by decide), mU_ne (by decide), show M 25 b = _ from j5, show M 15 b = _ from l5.2.2.2.1, show M 16 b = _ from l5.2.2.2.2]
          unfold gHm gDu
          rw [if_pos hf, if_pos f2.1]
          exact ⟨rfl, rfl⟩) (fun j hj => absurd hj (Nat.not_lt_zero j))
        have e23 : (mU M 161 5 1000000000) 23 7 = ((bset 7 (inL (elG (M 166) 7)) : Nat) : Int) := by rw [mU_ne (by decide), hset, hset2]
        rw [e23, show ridd_orderOn_F 12 0 ((bset 7 (inL (elG (M 166) 7)) : Nat) : Int) 0 0 (mU M 161 5 1000000000) = some (rV, M') from q1, bV_V]
        have C' : Core M M' := by
          have hq : ∀ p, p ≠ 161 → p ≠ 162 → p ≠ 163 → M' p = M p := fun p p1 p2 p3 => by rw [q2 p p1 p2 p3, mU_ne p1]
          refine ⟨fun a ha => hq a ?_ ?_ ?_, ?_, ?_, ?_⟩
          · unfold coreA at ha; omega
          · unfold coreA at ha; omega
          · unfold coreA at ha; omega
          · rw [hq 1 (by decide) (by decide) (by decide)]; exact ⟨rfl, rfl⟩
          · rw [hq 165 (by decide) (by decide) (by decide)]; exact ⟨rfl, rfl, rfl, rfl⟩
          · rw [hq 0 (by decide) (by decide) (by decide)]; exact ⟨rfl, rfl, rfl⟩
        have q9 : M' 999 = M 999 := by rw [q2 999 (by decide) (by decide) (by decide), mU_ne (by decide)]
        have q4' : gCR (elG (M 166) 7).length (gAll (M 166)) M' := q4
        obtain ⟨r1, r2⟩ := q4'
        have r3 : (gAll (M 166)).2.length = (elG (M 166) 7).length ∧ ∀ j, j < (elG (M 166) 7).length → M' 163 j = lsG (gAll (M 166)).2 j := by
          rcases r2 with g | g
          · omega
          · exact g.2
        refine ⟨M', ?_, C', q9⟩
        unfold gaV
        rw [bq_ne h1 (by decide)]
        by_cases g3 : v1 = -1
        · rw [if_pos g3, if_pos g3, bI_I, r1]
        · rw [if_neg g3, if_neg g3, bq_in (by omega) (by omega), bI_I, if_pos (by omega), r3.2 v1.toNat (by omega)]
  · have hWN := hN.2.1
    rw [← e] at hB hlen hall c3 ⊢
    obtain ⟨P, eP⟩ : ∃ P : Nat, N 166 3 = (P : Int) := ⟨(N 166 3).toNat, by omega⟩
    have e7 : elG (N 166) 7 = elG (N 166) P := by
      have := elG_ext (w := N 166) (n := P) (by omega) (7 - P)
      rw [show P + (7 - P) = 7 by omega] at this
      exact this
    obtain ⟨n, hn⟩ : ∃ n, n = (elG (N 166) 7).length := ⟨_, rfl⟩
    have hfa : ∀ n, n ≤ 7 → gFa n < 1000000 := by decide
    obtain ⟨F, hF⟩ : ∃ F, FU = F + gFa n := ⟨FU - gFa n, by have := FU_gt (hfa n (by omega)); omega⟩
    obtain ⟨K, hK⟩ : ∃ K : Int → MM → OR, K = (fun v3_31 M_32 => (bif cmpB .ne v1 (-1) then (bI (mo_in v1 0 ((n : Int) - 1) M_32) fun z_37 M_36 => (bif cmpB .eq z_37 0 then some (rI (-1), M_36) else (bif inB v1 7 then some (rI (M_36 179 (v1).toNat), M_36) else none))) else some (rI v3_31, M_32))) := ⟨_, rfl⟩
    obtain ⟨N1, q1, q2, q3⟩ := gate_lay (v1 := v1) (K := fun v2_11 M_12 => (mo_gate_L47 v1 v2_11 (fun v3_31 M_32 => (bif cmpB .ne v1 (-1) then (bI (mo_in v1 0 (v2_11 - 1) M_32) fun z_37 M_36 => (bif cmpB .eq z_37 0 then some (rI (-1), M_36) else (bif inB v1 7 then some (rI (M_36 179 (v1).toNat), M_36) else none))) else some (rI v3_31, M_32))) FU (-1) M_12)) (M := mU N 165 0 0) (w := N 166) hWN.1 hWN.2.2.2.2.1 (by omega) P FU 0 (mU N 165 0 0) (by omega) (FU_gt (by omega)) (fun _ _ => rfl) rfl (fun j hj => absurd hj (Nat.not_lt_zero j))
    rw [Nat.zero_add, ← e7] at q1 q3
    rw [← hn] at q1
    obtain ⟨v2, N2, t1, t2, t3, t4⟩ := gate_walk (v1 := v1) (K := K) (N := n) (w := N 166) hWN.1 hWN.2.2.2.2.1 (show k + 1 ≤ 600 by omega) (by omega) n [] (elG (N 166) 7) (1000000000, []) (-1) N1 F hn.symm (by rw [List.length_nil]; omega) elG_srt (fun x hx => (elG_mem.mp hx).2) (by rw [q2 166 (by decide)]; rfl) q3 (Or.inl ⟨rfl, rfl⟩)
    rw [← hF] at t1
    have t4' : gRR n (gAll (N 166)) v2 N2 := by
      unfold gAll
      rw [← hn]; exact t4
    have hnx : gNx v1 (n : Int) K F v2 N2 = K v2 N2 := by
      unfold gNx
      rw [next_none (by omega) (fun j hj => ?_) (fun j hj => ?_), bI_I, bq_ne (by decide) (by decide), if_pos rfl]
      · rw [List.nil_append] at t3
        rw [t3 j (by rw [List.length_reverse]; omega)]
        exact lsG_I (fun b hb => (elG_mem.mp (List.mem_reverse.mp hb)).1) j (by rw [List.length_reverse]; omega)
      · rw [List.nil_append] at t3
        rw [t3 j (by rw [List.length_reverse]; omega), t3 (j + 1) (by rw [List.length_reverse]; omega)]
        exact desc_rev elG_srt j (by rw [List.length_reverse]; omega)
    have hfr : ∀ p, p ≠ 178 → p ≠ 179 → N2 p = (mU N 165 0 0) p := fun p p1 p2 => by rw [t2 p p1 p2, q2 p p1]
    refine ⟨N2, ?_, ?_, ?_⟩
    · have r3 : (v2 = (gAll (N 166)).1) ∧ (gAll (N 166)).2.length = n ∧ ∀ j, j < n → N2 179 j = lsG (gAll (N 166)).2 j := by
        rcases t4' with g | g
        · omega
        · exact ⟨g.2.1, g.2.2⟩
      unfold mo_gate
      rw [sM_eq, show mo_gate_L9 v1 _ FU 0 0 _ = _ from q1]
      show mo_gate_L47 v1 (n : Int) _ FU (-1) N1 = _
      rw [← hK, t1, hnx, hK]
      show (bif cmpB .ne v1 (-1) then _ else _) = _
      rw [bq_ne h1 (by decide)]
      unfold gaV
      by_cases g3 : v1 = -1
      · rw [if_pos g3, if_pos g3, r3.1]
      · rw [if_neg g3, if_neg g3, mo_in_b h1 (by decide) (by omega), bz_eq0]
        by_cases g4 : 0 ≤ v1 ∧ v1 ≤ (n : Int) - 1
        · rw [decide_eq_true g4, cn_t, if_pos (by omega), bq_in (by omega) (by omega), r3.2.2 v1.toNat (by omega)]
        · rw [decide_eq_false g4, cn_f, if_neg (by omega)]
    · have hq := hfr
      refine Core.trans' Core_t0 ⟨fun a ha => hq a ?_ ?_, ?_, ?_, ?_⟩
      · unfold coreA at ha; omega
      · unfold coreA at ha; omega
      · rw [hq 1 (by decide) (by decide)]; exact ⟨rfl, rfl⟩
      · rw [hq 165 (by decide) (by decide)]; exact ⟨rfl, rfl, rfl, rfl⟩
      · rw [hq 0 (by decide) (by decide)]; exact ⟨rfl, rfl, rfl⟩
    · rw [hfr 999 (by decide) (by decide)]; rfl
