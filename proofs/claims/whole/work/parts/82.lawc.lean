/-! ===== THE LAW, as the class reads it ===== -/
theorem joined_v {s x y c n : Int} {M : MM} {k : Int → MM → OR} (h : cdR c s n) (hs : s = 9 ∨ s = 10 ∨ s = 11 ∨ ((s = 13 ∨ s = 14) ∧ (x = 0 ∨ x = 1) ∧ (y = 0 ∨ y = 1))) : bI (law_joined c x y M) k = k (ljoin s x y) M := by
  unfold law_joined ljoin
  rcases hs with rfl | rfl | rfl | ⟨hs, hx, hy⟩
  · obtain rfl : c = 1011 := by unfold cdR at h; omega
    rw [bq_eq (by decide) (by decide), if_neg (by decide), bq_eq (by decide) (by decide), if_neg (by decide), bq_eq (by decide) (by decide), if_pos rfl]; rfl
  · obtain rfl : c = 1012 := by unfold cdR at h; omega
    rw [bq_eq (by decide) (by decide), if_neg (by decide), bq_eq (by decide) (by decide), if_neg (by decide), bq_eq (by decide) (by decide), if_neg (by decide), bq_eq (by decide) (by decide), if_pos rfl, if_neg (by decide), if_pos rfl, b_10, bI_I]
  · obtain rfl : c = 1013 := by unfold cdR at h; omega
    rw [bq_eq (by decide) (by decide), if_neg (by decide), bq_eq (by decide) (by decide), if_neg (by decide), bq_eq (by decide) (by decide), if_neg (by decide), bq_eq (by decide) (by decide), if_neg (by decide), bq_eq (by decide) (by decide), if_pos rfl, if_neg (by decide), if_neg (by decide), if_pos rfl, b_10, bI_I]
  · rcases hs with rfl | rfl
    · obtain rfl : c = 1009 := by unfold cdR at h; omega
      rcases hx with rfl | rfl <;> rcases hy with rfl | rfl <;> rfl
    · obtain rfl : c = 1010 := by unfold cdR at h; omega
      rcases hx with rfl | rfl <;> rcases hy with rfl | rfl <;> rfl
theorem cls_holds_run {w : Nat → Int} {T : Int → Int} {K : Int → MM → OR} {l en : Nat} (hl : l < 12) (he4 : en ≤ 400) (hT7 : T 7 = 0 ∨ T 7 = 1) : ∀ (m F i : Nat) (st : List Int) (ts tz : List Bool) (M : MM), M 19 l = en → (∀ j, i ≤ j → j < en → cdR (M 20 j) (w (315 + 2 * j)) (w (316 + 2 * j))) → (∀ k : Nat, k < 8 → M 21 k = T (k : Int)) → m < F → i + m = en → tyR (fun i => w (315 + 2 * i)) m i ts = some tz → ts.length ≤ 32 → VT st ts → StR (M 22) st →
    ∃ M', law_holds_L19 17 (l : Int) K F (st.length : Int) (i : Int) M = K ((lrun w T m i st).length : Int) M' ∧ StR (M' 22) (lrun w T m i st) ∧ VT (lrun w T m i st) tz ∧ Fr 22 M M'
  | 0, F, i, st, ts, tz, M, hen, hcd, hT, hF, hi, hty, hts, hv, hst => by
    obtain ⟨n, rfl⟩ : ∃ n, F = n + 1 := ⟨F - 1, by omega⟩
    obtain rfl : i = en := by omega
    injection hty with hty
    refine ⟨M, ?_, hst, by rw [← hty]; exact hv, fun p _ => rfl⟩
    rw [law_holds_L19, bq_in (by omega) (by omega), Int.toNat_natCast, show M (17 + 2) l = (i : Int) from hen, bq_ge (by omega) (by omega), if_pos (by omega)]
    rfl
  | m + 1, F, i, st, ts, tz, M, hen, hcd, hT, hF, hi, hty, hts, hv, hst => by
    obtain ⟨n, rfl⟩ : ∃ n, F = n + 1 := ⟨F - 1, by omega⟩
    have hc := hcd i (Nat.le_refl _) (by omega)
    obtain ⟨s0, s1⟩ := cdR_s hc
    have hsl := VT_len hv
    have hty' : (ty1 (w (315 + 2 * i)) ts).bind (tyR (fun i => w (315 + 2 * i)) m (i + 1)) = some tz := hty
    match h1 : ty1 (w (315 + 2 * i)) ts, hty' with
    | none, hty' => cases hty'
    | some tm, hty' =>
    have hlen : tm.length ≤ 32 := by
      rcases ty_cases h1 s1 s0 with ⟨-, g1, g2⟩ | ⟨-, r, g1, g2⟩ | ⟨-, r, g1, g2⟩ | ⟨-, r, g1, g2⟩
      · rw [g2, List.length_cons]; omega
      · rw [g2]; rw [g1] at hts; exact hts
      · rw [g2, List.length_cons]; rw [g1, List.length_cons, List.length_cons] at hts; omega
      · rw [g2, List.length_cons]; rw [g1, List.length_cons, List.length_cons] at hts; omega
    have fin : ∀ (st' : List Int) (M1 : MM), st' = lstep T (w (315 + 2 * i)) (w (316 + 2 * i)) st → VT st' tm → StR (M1 22) st' → Fr 22 M M1 → law_holds_L19 17 (l : Int) K (n + 1) (st.length : Int) (i : Int) M = law_holds_L19 17 (l : Int) K n (st'.length : Int) ((i : Int) + 1) M1 → ∃ M', law_holds_L19 17 (l : Int) K (n + 1) (st.length : Int) (i : Int) M = K ((lrun w T (m + 1) i st).length : Int) M' ∧ StR (M' 22) (lrun w T (m + 1) i st) ∧ VT (lrun w T (m + 1) i st) tz ∧ Fr 22 M M' := by
      intro st' M1 e1 e2 e3 e4 e5
      obtain ⟨M', q1, q2, q3, q4⟩ := cls_holds_run hl he4 hT7 m n (i + 1) st' tm tz M1 (by rw [e4 19 (by decide)]; exact hen) (fun j g1 g2 => by rw [e4 20 (by decide)]; exact hcd j (by omega) g2) (fun k hk => by rw [e4 21 (by decide)]; exact hT k hk) (by omega) (by omega) hty' hlen e2 e3
      rw [e1] at q1 q2 q3
      refine ⟨M', ?_, q2, q3, fun p hp => (q4 p hp).trans (e4 p hp)⟩
      rw [e5, e1, show (i : Int) + 1 = ((i + 1 : Nat) : Int) by omega]
      exact q1
    generalize hcg : M 20 i = c at hc
    have pre : ∀ X : OR, (bif cmpB .ge c 1008 then (law_holds_J94 17 (l : Int) (law_holds_L19 17 (l : Int) K n) K (st.length : Int) (i : Int) c M) else (bif cmpB .ge (st.length : Int) 32 then (law_holds_J94 17 (l : Int) (law_holds_L19 17 (l : Int) K n) K (st.length : Int) (i : Int) c M) else (bif cmpB .ge c 1000 then (bif inB (c - 1000) 8 then (bif inB (st.length : Int) 32 then (law_holds_L19 17 (l : Int) K n ((st.length : Int) + 1) ((i : Int) + 1) (mU M 22 ((st.length : Int)).toNat (M 21 (c - 1000).toNat))) else none) else none) else (bif inB (st.length : Int) 32 then (law_holds_L19 17 (l : Int) K n ((st.length : Int) + 1) ((i : Int) + 1) (mU M 22 ((st.length : Int)).toNat c)) else none)))) = X → law_holds_L19 17 (l : Int) K (n + 1) (st.length : Int) (i : Int) M = X := by
      intro X hX
      rw [← hX, law_holds_L19, bq_in (by omega) (by omega), Int.toNat_natCast, show M (17 + 2) l = (en : Int) from hen, bq_ge (by omega) (by omega), if_neg (by omega), bq_ge (by omega) (by decide), if_neg (by omega), bq_in (by omega) (by omega), Int.toNat_natCast, show M (17 + 3) i = c from hcg]
      simp only [sM_eq]
    have hcI : I32 c := by unfold cdR at hc; omega
    -- two are joined
    have two : ∀ (x y : Int) (s : List Int), st = y :: x :: s → s.length ≤ 30 → 1008 < c → (w (315 + 2 * i) = 9 ∨ w (315 + 2 * i) = 10 ∨ w (315 + 2 * i) = 11 ∨ ((w (315 + 2 * i) = 13 ∨ w (315 + 2 * i) = 14) ∧ (x = 0 ∨ x = 1) ∧ (y = 0 ∨ y = 1))) → law_holds_L19 17 (l : Int) K (n + 1) (st.length : Int) (i : Int) M = law_holds_L19 17 (l : Int) K n ((ljoin (w (315 + 2 * i)) x y :: s).length : Int) ((i : Int) + 1) (mU M 22 s.length (ljoin (w (315 + 2 * i)) x y)) := by
      intro x y s hsx hb hc8 hk
      subst hsx
      have hy : M 22 (s.length + 1) = y := hst.1
      have hx : M 22 s.length = x := hst.2.1
      refine pre _ ?_
      simp only [List.length_cons]
      rw [bq_ge hcI (by decide), if_pos (by omega)]
      unfold law_holds_J94 law_holds_J128
      rw [bq_ne hcI (by decide), if_neg (by omega), bq_le hcI (by decide), if_neg (by omega), bq_lt (by omega) (by decide), if_neg (by omega), bq_in (by omega) (by omega), bq_in (by omega) (by omega), show (((s.length + 1 + 1 : Nat) : Int) + (-1) - 1).toNat = s.length by omega, show (((s.length + 1 + 1 : Nat) : Int) + (-1)).toNat = s.length + 1 by omega, show M (17 + 5) s.length = x from hx, show M (17 + 5) (s.length + 1) = y from hy, joined_v hc hk, bq_in (by omega) (by omega), sM_eq, show ((s.length + 1 + 1 : Nat) : Int) + (-1) = ((s.length + 1 : Nat) : Int) by omega]
    rcases ty_cases h1 s1 s0 with ⟨g0, g1, g2⟩ | ⟨g0, r, g1, g2⟩ | ⟨g0, r, g1, g2⟩ | ⟨g0, r, g1, g2⟩
    · have hval : (bif cmpB .ge c 1000 then (bif inB (c - 1000) 8 then (bif inB (st.length : Int) 32 then (law_holds_L19 17 (l : Int) K n ((st.length : Int) + 1) ((i : Int) + 1) (mU M 22 ((st.length : Int)).toNat (M 21 (c - 1000).toNat))) else none) else none) else (bif inB (st.length : Int) 32 then (law_holds_L19 17 (l : Int) K n ((st.length : Int) + 1) ((i : Int) + 1) (mU M 22 ((st.length : Int)).toNat c)) else none)) = law_holds_L19 17 (l : Int) K n ((st.length : Int) + 1) ((i : Int) + 1) (mU M 22 st.length (lfact T (w (315 + 2 * i)) (w (316 + 2 * i)))) := by
        unfold lfact
        by_cases h8 : w (315 + 2 * i) = 8
        · rw [bq_ge hcI (by decide), if_neg (by unfold cdR at hc; omega), bq_in (by omega) (by omega), Int.toNat_natCast, if_pos h8, show c = w (316 + 2 * i) by unfold cdR at hc; omega]
        · have hc1 : c = 1000 + w (315 + 2 * i) := by unfold cdR at hc; omega
          have hTs := hT (w (315 + 2 * i)).toNat (by omega)
          rw [Int.toNat_of_nonneg s0] at hTs
          rw [bq_ge hcI (by decide), if_pos (by omega), bq_in (by omega) (by omega), bq_in (by omega) (by omega), Int.toNat_natCast, if_neg h8, show (c - 1000).toNat = (w (315 + 2 * i)).toNat by omega, hTs]
      refine fin (lfact T (w (315 + 2 * i)) (w (316 + 2 * i)) :: st) (mU M 22 st.length (lfact T (w (315 + 2 * i)) (w (316 + 2 * i)))) ?_ ?_ ?_ (fun p hp => mU_ne hp) (pre _ ?_)
      · unfold lstep; rw [if_pos g0]
      · rw [g2]; exact ⟨fun h => lfact_01 (w := w) hT7 h, hv⟩
      · rw [mU_eq]; exact StR_push hst
      · rw [bq_ge hcI (by decide), if_neg (by unfold cdR at hc; omega), bq_ge (by omega) (by decide), if_neg (by omega), hval, List.length_cons, show (st.length : Int) + 1 = ((st.length + 1 : Nat) : Int) by omega]
    · rw [g1] at hv
      obtain ⟨x, s, rfl, v1, v2⟩ := VT_1 hv
      have hx : M 22 s.length = x := hst.1
      have hb : s.length ≤ 31 := by rw [g1] at hts; simp only [List.length_cons] at hts; have := VT_len v2; omega
      refine fin ((1 - x) :: s) (mU M 22 s.length (1 - x)) ?_ ?_ ?_ (fun p hp => mU_ne hp) (pre _ ?_)
      · unfold lstep; rw [if_neg (by omega), if_pos g0]
      · rw [g2]
        refine ⟨fun h => ?_, v2⟩
        have := v1 rfl
        omega
      · rw [mU_eq]; exact StR_push hst.2
      · simp only [List.length_cons]
        rw [bq_ge hcI (by decide), if_pos (by unfold cdR at hc; omega)]
        unfold law_holds_J94
        rw [bq_ne hcI (by decide), if_pos (by unfold cdR at hc; omega), bq_lt (by omega) (by decide), if_neg (by omega), bq_in (by omega) (by omega), bq_in (by omega) (by omega), sM_eq, show (((s.length + 1 : Nat) : Int) - 1).toNat = s.length by omega, show M (17 + 5) s.length = x from hx]
    · rw [g1] at hv
      obtain ⟨y, x, s, rfl, v1, v2, v3⟩ := VT_2 hv
      have hb : s.length ≤ 30 := by rw [g1] at hts; simp only [List.length_cons] at hts; have := VT_len v3; omega
      refine fin (ljoin (w (315 + 2 * i)) x y :: s) (mU M 22 s.length (ljoin (w (315 + 2 * i)) x y)) ?_ ?_ ?_ (fun p hp => mU_ne hp) (two x y s rfl hb (by unfold cdR at hc; omega) (by omega))
      · unfold lstep; rw [if_neg (by omega), if_neg (by omega)]
      · rw [g2]
        refine ⟨fun h => ?_, v3⟩
        have h9 : w (315 + 2 * i) ≠ 9 := of_decide_eq_true h
        unfold ljoin
        rw [if_neg h9]
        split
        · exact b2_01 _
        · split
          · exact b2_01 _
          · split
            · exact b2_01 _
            · exact b2_01 _
      · rw [mU_eq]; exact StR_push hst.2.2
    · rw [g1] at hv
      obtain ⟨y, x, s, rfl, v1, v2, v3⟩ := VT_2 hv
      have y01 := v1 rfl
      have x01 := v2 rfl
      have hb : s.length ≤ 30 := by rw [g1] at hts; simp only [List.length_cons] at hts; have := VT_len v3; omega
      refine fin (ljoin (w (315 + 2 * i)) x y :: s) (mU M 22 s.length (ljoin (w (315 + 2 * i)) x y)) ?_ ?_ ?_ (fun p hp => mU_ne hp) (two x y s rfl hb (by unfold cdR at hc; omega) (Or.inr (Or.inr (Or.inr ⟨g0, x01, y01⟩))))
      · unfold lstep; rw [if_neg (by omega), if_neg (by omega)]
      · rw [g2]
        refine ⟨fun _ => ?_, v3⟩
        unfold ljoin
        rw [if_neg (by omega)]
        split
        · exact b2_01 _
        · split
          · exact b2_01 _
          · split
            · exact b2_01 _
            · exact b2_01 _
      · rw [mU_eq]; exact StR_push hst.2.2
theorem law_holds_v {w : Nat → Int} {T : Int → Int} {M : MM} {l : Nat} (hL : LawT 17 w M) (hl : (l : Int) < w 266) (hT7 : T 7 = 0 ∨ T 7 = 1) (hT : ∀ k : Nat, k < 8 → M 21 k = T (k : Int)) : ∃ M', law_holds 17 (l : Int) M = some (rI (b2 (lHd w T l)), M') ∧ Fr 22 M M' := by
  obtain ⟨h0, h1, h2⟩ := hL
  obtain ⟨e1, e2, e3, e4, e5, e6⟩ := h2 l hl
  have hl12 : l < 12 := by omega
  have e9 : w (269 + 4 * l) = ((lSt w l : Nat) : Int) := by unfold lSt; omega
  have e0 : w (270 + 4 * l) = ((lEn w l : Nat) : Int) := by unfold lEn; omega
  have hle : lSt w l ≤ lEn w l := by unfold lSt lEn; omega
  have h400 : lEn w l ≤ 400 := by unfold lEn; omega
  have hen : M 19 l = ((lEn w l : Nat) : Int) := by rw [← e0]; exact e3.symm
  have main : ∃ M', law_holds_J18 17 (l : Int) 0 ((lSt w l : Nat) : Int) M = some (rI (b2 (lHd w T l)), M') ∧ Fr 22 M M' := by
    unfold law_holds_J18
    rcases e6 with h5 | h5
    · refine ⟨M, ?_, fun p _ => rfl⟩
      rw [show FU = 999999 + 1 from rfl, law_holds_L19, bq_in (by omega) (by omega), Int.toNat_natCast, show M (17 + 2) l = _ from hen, bq_ge (by omega) (by omega), if_pos (by omega), bq_eq (by decide) (by decide), if_pos rfl]
      unfold lHd
      rw [h5, Nat.sub_self]
      rfl
    · obtain ⟨M', q1, q2, q3, q4⟩ := cls_holds_run (w := w) (T := T) (K := fun v2_12 M_13 => (bif cmpB .eq v2_12 0 then some (rI 1, M_13) else (bif inB 0 32 then (bif cmpB .eq (M_13 (17 + 5) 0) 0 then some (rI 0, M_13) else some (rI 1, M_13)) else none))) hl12 h400 hT7 (lEn w l - lSt w l) FU (lSt w l) [] [] [true] M hen e5 hT (FU_gt (by omega)) (by omega) h5 (by decide) trivial trivial
      refine ⟨M', ?_, q4⟩
      rw [show (((([] : List Int).length : Nat)) : Int) = 0 from rfl] at q1
      rw [q1]
      unfold lHd
      generalize lrun w T (lEn w l - lSt w l) (lSt w l) [] = st at *
      obtain ⟨x, s, rfl, v1, v2⟩ := VT_1 q3
      match s, v2 with
      | [], _ =>
        have hx : M' (17 + 5) 0 = x := q2.1
        rw [hx]
        rcases v1 rfl with rfl | rfl <;> rfl
  unfold law_holds
  rw [bq_ne (by omega) (by decide)]
  by_cases hz : l = 0
  · subst hz
    rw [if_pos rfl] at e2
    rw [if_pos (by omega)]
    rw [show ((lSt w 0 : Nat) : Int) = 0 by rw [← e9]; exact e2] at main
    exact main
  · rw [if_neg hz] at e2
    rw [if_neg (by omega), bq_in (by omega) (by omega), show ((l : Int) - 1).toNat = l - 1 by omega, show M (17 + 2) (l - 1) = ((lSt w l : Nat) : Int) by rw [← e9]; exact e2.symm]
    exact main
