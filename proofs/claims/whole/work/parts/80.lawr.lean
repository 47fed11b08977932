/-! ===== THE LAW, as the reference reads it ===== -/
def StR (f : Nat → Int) : List Int → Prop
  | [] => True
  | a :: r => f r.length = a ∧ StR f r
def VT : List Int → List Bool → Prop
  | [], [] => True
  | a :: r, b :: s => (b = true → a = 0 ∨ a = 1) ∧ VT r s
  | _, _ => False
theorem VT_len : ∀ {st : List Int} {ts : List Bool}, VT st ts → st.length = ts.length
  | [], [], _ => rfl
  | a :: r, b :: s, h => congrArg (· + 1) (VT_len h.2)
  | [], _ :: _, h => h.elim
  | _ :: _, [], h => h.elim
theorem StR_up {f : Nat → Int} {x : Int} {n : Nat} : ∀ {st : List Int}, st.length ≤ n → StR f st → StR (up f n x) st
  | [], _, _ => trivial
  | a :: r, h, H => ⟨by rw [up_ne (by simp only [List.length_cons] at h; omega)]; exact H.1, StR_up (by simp only [List.length_cons] at h; omega) H.2⟩
theorem StR_push {f : Nat → Int} {x : Int} {st : List Int} (H : StR f st) : StR (up f st.length x) (x :: st) := ⟨up_eq, StR_up (Nat.le_refl _) H⟩
def factT (N : MM) (k : Int) : Int := if k = 0 then N 165 17 else if k = 1 then N 165 18 else if k = 2 then N 165 19 else if k = 3 then N 165 20 % 24 else if k = 4 then N 165 20 / 24 else if k = 5 then N 165 21 else if k = 6 then N 165 22 else if N 165 20 % 24 < 6 ∨ 19 < N 165 20 % 24 then 1 else 0
theorem mo_factOf_b {N : MM} {k : Int → MM → OR} {s n : Int} (h0 : 0 ≤ s) (h1 : s ≤ 8) (ht : 0 ≤ N 165 20) (ht2 : I32 (N 165 20)) : bI (mo_factOf s n N) k = k (lfact (factT N) s n) N := by
  unfold mo_factOf lfact factT
  rw [tmod24 ht2 ht, tdiv24 ht2 ht]
  rcases (show s = 0 ∨ s = 1 ∨ s = 2 ∨ s = 3 ∨ s = 4 ∨ s = 5 ∨ s = 6 ∨ s = 7 ∨ s = 8 by omega) with rfl | rfl | rfl | rfl | rfl | rfl | rfl | rfl | rfl <;> simp (disch := omega) only [↓bq_eq, ↓if_pos, ↓if_neg]
  · rfl
  · rfl
  · rfl
  · rfl
  · rfl
  · rfl
  · rfl
  · rw [bq_lt (by omega) (by decide), bq_le (by omega) (by decide)]
    by_cases h : N 165 20 % 24 < 6
    · rw [if_pos h, if_pos (Or.inl h)]; rfl
    · rw [if_neg h]
      by_cases h2 : N 165 20 % 24 ≤ 19
      · rw [if_pos h2, if_neg (by omega)]; rfl
      · rw [if_neg h2, if_pos (by omega)]; rfl
  · rfl
/-- only the stack of the reference has changed -/
def Fr (a : Nat) (N N' : MM) : Prop := ∀ p, p ≠ a → N' p = N p
theorem ty_cases {s : Int} {ts tz : List Bool} (h : ty1 s ts = some tz) (hs : s ≤ 14) (h0 : 0 ≤ s) : (s ≤ 8 ∧ ts.length < 32 ∧ tz = decide (s = 7) :: ts) ∨ (s = 12 ∧ ∃ r, ts = true :: r ∧ tz = true :: r) ∨ ((s = 9 ∨ s = 10 ∨ s = 11) ∧ ∃ r, ts = false :: false :: r ∧ tz = decide (s ≠ 9) :: r) ∨ ((s = 13 ∨ s = 14) ∧ ∃ r, ts = true :: true :: r ∧ tz = true :: r) := by
  unfold ty1 at h
  by_cases h8 : s ≤ 8
  · rw [if_pos h8] at h
    by_cases hl : ts.length < 32
    · rw [if_pos hl] at h
      injection h with h
      exact Or.inl ⟨h8, hl, h.symm⟩
    · rw [if_neg hl] at h; cases h
  · rw [if_neg h8] at h
    by_cases h12 : s = 12
    · rw [if_pos h12] at h
      split at h
      · injection h with h
        exact Or.inr (Or.inl ⟨h12, _, rfl, h.symm⟩)
      · cases h
    · rw [if_neg h12] at h
      by_cases h9 : s = 9
      · rw [if_pos h9] at h
        split at h
        · injection h with h
          exact Or.inr (Or.inr (Or.inl ⟨Or.inl h9, _, rfl, by rw [← h, decide_eq_false (by omega)]⟩))
        · cases h
      · rw [if_neg h9] at h
        by_cases h10 : s = 10 ∨ s = 11
        · rw [if_pos h10] at h
          split at h
          · injection h with h
            exact Or.inr (Or.inr (Or.inl ⟨Or.inr h10, _, rfl, by rw [← h, decide_eq_true h9]⟩))
          · cases h
        · rw [if_neg h10] at h
          split at h
          · injection h with h
            exact Or.inr (Or.inr (Or.inr ⟨by omega, _, rfl, h.symm⟩))
          · cases h
theorem VT_1 {st : List Int} {b : Bool} {r : List Bool} (h : VT st (b :: r)) : ∃ x s, st = x :: s ∧ (b = true → x = 0 ∨ x = 1) ∧ VT s r := by
  match st, h with
  | x :: s, h => exact ⟨x, s, rfl, h.1, h.2⟩
theorem VT_2 {st : List Int} {b c : Bool} {r : List Bool} (h : VT st (b :: c :: r)) : ∃ x y s, st = x :: y :: s ∧ (b = true → x = 0 ∨ x = 1) ∧ (c = true → y = 0 ∨ y = 1) ∧ VT s r := by
  obtain ⟨x, s, rfl, h1, h2⟩ := VT_1 h
  obtain ⟨y, s', rfl, h3, h4⟩ := VT_1 h2
  exact ⟨x, y, s', rfl, h1, h3, h4⟩
theorem lfact_01 {w : Nat → Int} {T : Int → Int} {s n : Int} (hT : T 7 = 0 ∨ T 7 = 1) (h : decide (s = 7) = true) : lfact T s n = 0 ∨ lfact T s n = 1 := by
  have h7 : s = 7 := of_decide_eq_true h
  subst h7
  exact hT
theorem tyR_len : ∀ (f : Nat → Int) n i (ts tz : List Bool), (∀ j, i ≤ j → j < i + n → 0 ≤ f j ∧ f j ≤ 14) → ts.length ≤ 32 → tyR f n i ts = some tz → tz.length ≤ 32
  | f, 0, i, ts, tz, _, h, e => by
    injection e with e
    rw [← e]; exact h
  | f, n + 1, i, ts, tz, hr, h, e => by
    have e' : (ty1 (f i) ts).bind (tyR f n (i + 1)) = some tz := e
    match h1 : ty1 (f i) ts, e' with
    | some t1, e' =>
      have r := hr i (by omega) (by omega)
      refine tyR_len f n (i + 1) t1 tz (fun j h1 h2 => hr j (by omega) (by omega)) ?_ e'
      rcases ty_cases h1 r.2 r.1 with ⟨-, g1, g2⟩ | ⟨-, r, g1, g2⟩ | ⟨-, r, g1, g2⟩ | ⟨-, r, g1, g2⟩
      · rw [g2, List.length_cons]; omega
      · rw [g2]; rw [g1] at h; exact h
      · rw [g2, List.length_cons]; rw [g1, List.length_cons, List.length_cons] at h; omega
      · rw [g2, List.length_cons]; rw [g1, List.length_cons, List.length_cons] at h; omega
    | none, e' => cases e'
/-- the reference's stack machine runs as lrun does -/
theorem mo_holds_run {w : Nat → Int} {K : Int → MM → OR} {l en : Nat} (hl : l < 12) (hen : w (270 + 4 * l) = en) (he4 : en ≤ 400) : ∀ (m F i : Nat) (st : List Int) (ts tz : List Bool) (N : MM), (∀ j, i ≤ j → j < en → 0 ≤ w (315 + 2 * j) ∧ w (315 + 2 * j) ≤ 14) → N 166 = w → 0 ≤ N 165 20 → I32 (N 165 20) → m < F → i + m = en → tyR (fun i => w (315 + 2 * i)) m i ts = some tz → ts.length ≤ 32 → VT st ts → StR (N 172) st →
    ∃ N', mo_holdsLine_L20 (267 + 4 * (l : Int)) K F (st.length : Int) (i : Int) N = K ((lrun w (factT N) m i st).length : Int) N' ∧ StR (N' 172) (lrun w (factT N) m i st) ∧ VT (lrun w (factT N) m i st) tz ∧ Fr 172 N N'
  | 0, F, i, st, ts, tz, N, hcd, hw, t0, t1, hF, hi, hty, hts, hv, hst => by
    obtain ⟨n, rfl⟩ : ∃ n, F = n + 1 := ⟨F - 1, by omega⟩
    obtain rfl : i = en := by omega
    injection hty with hty
    refine ⟨N, ?_, hst, by rw [← hty]; exact hv, fun p _ => rfl⟩
    rw [mo_holdsLine_L20, bq_in (by omega) (by omega), hw, show (267 + 4 * (l : Int) + 3).toNat = 270 + 4 * l by omega, hen, bq_ge (by omega) (by omega), if_pos (by omega)]
    rfl
  | m + 1, F, i, st, ts, tz, N, hcd, hw, t0, t1, hF, hi, hty, hts, hv, hst => by
    obtain ⟨n, rfl⟩ : ∃ n, F = n + 1 := ⟨F - 1, by omega⟩
    obtain ⟨s0, s1⟩ := hcd i (Nat.le_refl _) (by omega)
    have hsl := VT_len hv
    have hty' : (ty1 (w (315 + 2 * i)) ts).bind (tyR (fun i => w (315 + 2 * i)) m (i + 1)) = some tz := hty
    match h1 : ty1 (w (315 + 2 * i)) ts, hty' with
    | none, hty' => cases hty'
    | some tm, hty' =>
    have hlen : tm.length ≤ 32 := by
      rcases ty_cases h1 s1 s0 with ⟨-, g1, g2⟩ | ⟨-, r, g1, g2⟩ | ⟨-, r, g1, g2⟩ | ⟨-, r, g1, g2⟩
      · rw [g2, List.length_cons]; omega
      · rw [g2]; rw [g1] at hts; exact hts
      · rw [g2, List.length_cons]; rw [g1, List.length_cons, List.length_cons] at hts; omega
      · rw [g2, List.length_cons]; rw [g1, List.length_cons, List.length_cons] at hts; omega
    -- what one step does
    have fin : ∀ (st' : List Int) (N1 : MM), st' = lstep (factT N) (w (315 + 2 * i)) (w (316 + 2 * i)) st → VT st' tm → StR (N1 172) st' → Fr 172 N N1 → mo_holdsLine_L20 (267 + 4 * (l : Int)) K (n + 1) (st.length : Int) (i : Int) N = mo_holdsLine_L20 (267 + 4 * (l : Int)) K n (st'.length : Int) ((i : Int) + 1) N1 → ∃ N', mo_holdsLine_L20 (267 + 4 * (l : Int)) K (n + 1) (st.length : Int) (i : Int) N = K ((lrun w (factT N) (m + 1) i st).length : Int) N' ∧ StR (N' 172) (lrun w (factT N) (m + 1) i st) ∧ VT (lrun w (factT N) (m + 1) i st) tz ∧ Fr 172 N N' := by
      intro st' N1 e1 e2 e3 e4 e5
      have f165 : N1 165 = N 165 := e4 165 (by decide)
      have eT : factT N1 = factT N := by unfold factT; rw [f165]
      obtain ⟨N', q1, q2, q3, q4⟩ := mo_holds_run hl hen he4 m n (i + 1) st' tm tz N1 (fun j h1 h2 => hcd j (by omega) h2) (by rw [e4 166 (by decide)]; exact hw) (by rw [f165]; exact t0) (by rw [f165]; exact t1) (by omega) (by omega) hty' hlen e2 e3
      rw [eT, e1] at q1 q2 q3
      refine ⟨N', ?_, q2, q3, fun p hp => (q4 p hp).trans (e4 p hp)⟩
      rw [e5, e1, show (i : Int) + 1 = ((i + 1 : Nat) : Int) by omega]
      exact q1
    have hT7 : factT N 7 = 0 ∨ factT N 7 = 1 := by
      unfold factT
      simp only [if_neg (show ¬ (7 : Int) = 0 by decide), if_neg (show ¬ (7 : Int) = 1 by decide), if_neg (show ¬ (7 : Int) = 2 by decide), if_neg (show ¬ (7 : Int) = 3 by decide), if_neg (show ¬ (7 : Int) = 4 by decide), if_neg (show ¬ (7 : Int) = 5 by decide), if_neg (show ¬ (7 : Int) = 6 by decide)]
      split
      · exact Or.inr rfl
      · exact Or.inl rfl
    have pre : ∀ X : OR, (bif cmpB .gt (w (315 + 2 * i)) 8 then (bif cmpB .ne (w (315 + 2 * i)) 12 then (bif inB (((st.length : Int) + (-1)) - 1) 400 then (bif inB ((st.length : Int) + (-1)) 400 then (bif cmpB .ne (w (315 + 2 * i)) 10 then (bif cmpB .ne (w (315 + 2 * i)) 11 then (bif cmpB .ne (w (315 + 2 * i)) 13 then (bif cmpB .le ((N 172 ((((st.length : Int)) + (-1)) - 1).toNat) + (N 172 (((st.length : Int)) + (-1)).toNat)) 0 then (mo_holdsLine_J218 (267 + 4 * (l : Int)) (mo_holdsLine_L20 (267 + 4 * (l : Int)) K n) K ((st.length : Int) + (-1)) (i : Int) (w (315 + 2 * i)) (N 172 ((((st.length : Int)) + (-1)) - 1).toNat) (N 172 (((st.length : Int)) + (-1)).toNat) 0 N) else (mo_holdsLine_J218 (267 + 4 * (l : Int)) (mo_holdsLine_L20 (267 + 4 * (l : Int)) K n) K ((st.length : Int) + (-1)) (i : Int) (w (315 + 2 * i)) (N 172 ((((st.length : Int)) + (-1)) - 1).toNat) (N 172 (((st.length : Int)) + (-1)).toNat) 1 N)) else (bif cmpB .ne ((N 172 ((((st.length : Int)) + (-1)) - 1).toNat) + (N 172 (((st.length : Int)) + (-1)).toNat)) 2 then (mo_holdsLine_J218 (267 + 4 * (l : Int)) (mo_holdsLine_L20 (267 + 4 * (l : Int)) K n) K ((st.length : Int) + (-1)) (i : Int) (w (315 + 2 * i)) (N 172 ((((st.length : Int)) + (-1)) - 1).toNat) (N 172 (((st.length : Int)) + (-1)).toNat) 0 N) else (mo_holdsLine_J218 (267 + 4 * (l : Int)) (mo_holdsLine_L20 (267 + 4 * (l : Int)) K n) K ((st.length : Int) + (-1)) (i : Int) (w (315 + 2 * i)) (N 172 ((((st.length : Int)) + (-1)) - 1).toNat) (N 172 (((st.length : Int)) + (-1)).toNat) 1 N))) else (bif cmpB .le (N 172 ((((st.length : Int)) + (-1)) - 1).toNat) (N 172 (((st.length : Int)) + (-1)).toNat) then (mo_holdsLine_J218 (267 + 4 * (l : Int)) (mo_holdsLine_L20 (267 + 4 * (l : Int)) K n) K ((st.length : Int) + (-1)) (i : Int) (w (315 + 2 * i)) (N 172 ((((st.length : Int)) + (-1)) - 1).toNat) (N 172 (((st.length : Int)) + (-1)).toNat) 0 N) else (mo_holdsLine_J218 (267 + 4 * (l : Int)) (mo_holdsLine_L20 (267 + 4 * (l : Int)) K n) K ((st.length : Int) + (-1)) (i : Int) (w (315 + 2 * i)) (N 172 ((((st.length : Int)) + (-1)) - 1).toNat) (N 172 (((st.length : Int)) + (-1)).toNat) 1 N))) else (bif cmpB .ge (N 172 ((((st.length : Int)) + (-1)) - 1).toNat) (N 172 (((st.length : Int)) + (-1)).toNat) then (mo_holdsLine_J218 (267 + 4 * (l : Int)) (mo_holdsLine_L20 (267 + 4 * (l : Int)) K n) K ((st.length : Int) + (-1)) (i : Int) (w (315 + 2 * i)) (N 172 ((((st.length : Int)) + (-1)) - 1).toNat) (N 172 (((st.length : Int)) + (-1)).toNat) 0 N) else (mo_holdsLine_J218 (267 + 4 * (l : Int)) (mo_holdsLine_L20 (267 + 4 * (l : Int)) K n) K ((st.length : Int) + (-1)) (i : Int) (w (315 + 2 * i)) (N 172 ((((st.length : Int)) + (-1)) - 1).toNat) (N 172 (((st.length : Int)) + (-1)).toNat) 1 N))) else none) else none) else (bif inB ((st.length : Int) - 1) 400 then (bif inB ((st.length : Int) - 1) 400 then (mo_holdsLine_L20 (267 + 4 * (l : Int)) K n (st.length : Int) ((i : Int) + 1) (mU N 172 ((st.length : Int) - 1).toNat (1 - (N 172 ((st.length : Int) - 1).toNat)))) else none) else none)) else (bif inB (st.length : Int) 400 then (mo_holdsLine_L20 (267 + 4 * (l : Int)) K n ((st.length : Int) + 1) ((i : Int) + 1) (mU N 172 ((st.length : Int)).toNat (lfact (factT N) (w (315 + 2 * i)) (w (316 + 2 * i))))) else none)) = X → mo_holdsLine_L20 (267 + 4 * (l : Int)) K (n + 1) (st.length : Int) (i : Int) N = X := by
      intro X hX
      rw [← hX, mo_holdsLine_L20, bq_in (by omega) (by omega), hw, show (267 + 4 * (l : Int) + 3).toNat = 270 + 4 * l by omega, hen, bq_ge (by omega) (by omega), if_neg (by omega), bq_in (by omega) (by omega), show (315 + 2 * (i : Int)).toNat = 315 + 2 * i by omega, show (315 + 2 * (i : Int) + 1).toNat = 316 + 2 * i by omega, bq_gt (by omega) (by decide), bq_gt (by omega) (by decide)]
      by_cases h8 : 8 < w (315 + 2 * i)
      · rw [if_pos h8, if_pos h8]
        simp only [sM_eq]
      · rw [if_neg h8, if_neg h8, bq_in (by omega) (by omega), mo_factOf_b s0 (by omega) t0 t1]
        simp only [sM_eq]
    rcases ty_cases h1 s1 s0 with ⟨g0, g1, g2⟩ | ⟨g0, r, g1, g2⟩ | ⟨g0, r, g1, g2⟩ | ⟨g0, r, g1, g2⟩
    · refine fin (lfact (factT N) (w (315 + 2 * i)) (w (316 + 2 * i)) :: st) (mU N 172 st.length (lfact (factT N) (w (315 + 2 * i)) (w (316 + 2 * i)))) ?_ ?_ ?_ (fun p hp => mU_ne hp) (pre _ ?_)
      · unfold lstep; rw [if_pos g0]
      · rw [g2]; exact ⟨fun h => lfact_01 (w := w) hT7 h, hv⟩
      · rw [mU_eq]; exact StR_push hst
      · rw [bq_gt (by omega) (by decide), if_neg (by omega), bq_in (by omega) (by omega), Int.toNat_natCast, List.length_cons, show (st.length : Int) + 1 = ((st.length + 1 : Nat) : Int) by omega]
    · rw [g1] at hv
      obtain ⟨x, s, rfl, v1, v2⟩ := VT_1 hv
      have hx := hst.1
      refine fin ((1 - x) :: s) (mU N 172 s.length (1 - x)) ?_ ?_ ?_ (fun p hp => mU_ne hp) (pre _ ?_)
      · unfold lstep; rw [if_neg (by omega), if_pos g0]
      · rw [g2]
        refine ⟨fun h => ?_, v2⟩
        have := v1 rfl
        omega
      · rw [mU_eq]; exact StR_push hst.2
      · simp only [List.length_cons]
        rw [bq_gt (by omega) (by decide), if_pos (by omega), bq_ne (by omega) (by decide), if_pos g0, bq_in (by omega) (by simp only [List.length_cons] at hsl; rw [g1] at hts; simp only [List.length_cons] at hts; have := VT_len v2; omega), bq_in (by omega) (by simp only [List.length_cons] at hsl; rw [g1] at hts; simp only [List.length_cons] at hts; have := VT_len v2; omega), show (((s.length + 1 : Nat) : Int) - 1).toNat = s.length by omega, hx]
    · rw [g1] at hv
      obtain ⟨y, x, s, rfl, v1, v2, v3⟩ := VT_2 hv
      have hy : N 172 (s.length + 1) = y := hst.1
      have hx : N 172 s.length = x := hst.2.1
      have hb : s.length ≤ 30 := by rw [g1] at hts; simp only [List.length_cons] at hts; have := VT_len v3; omega
      have e1 : (((s.length + 1 + 1 : Nat) : Int) + (-1) - 1).toNat = s.length := by omega
      have e2 : (((s.length + 1 + 1 : Nat) : Int) + (-1)).toNat = s.length + 1 := by omega
      refine fin (ljoin (w (315 + 2 * i)) x y :: s) (mU N 172 s.length (ljoin (w (315 + 2 * i)) x y)) ?_ ?_ ?_ (fun p hp => mU_ne hp) (pre _ ?_)
      · unfold lstep; rw [if_neg (by omega), if_neg (by omega)]
      · rw [g2]
        refine ⟨fun h => ?_, v3⟩
        have h9 : w (315 + 2 * i) ≠ 9 := of_decide_eq_true h
        unfold ljoin
        rw [if_neg h9]
        split
        · exact b2_01 _
        · split
          · exact b2_01 _
          · split
            · exact b2_01 _
            · exact b2_01 _
      · rw [mU_eq]; exact StR_push hst.2.2
      · simp only [List.length_cons]
        rw [e1, e2, hx, hy, bq_gt (by omega) (by decide), if_pos (by omega), bq_ne (by omega) (by decide), if_neg (by omega), bq_in (by omega) (by omega), bq_in (by omega) (by omega), bq_ne (by omega) (by decide)]
        have J : ∀ z, mo_holdsLine_J218 (267 + 4 * (l : Int)) (mo_holdsLine_L20 (267 + 4 * (l : Int)) K n) K (((s.length + 1 + 1 : Nat) : Int) + (-1)) (i : Int) (w (315 + 2 * i)) x y z N = mo_holdsLine_L20 (267 + 4 * (l : Int)) K n ((s.length + 1 : Nat) : Int) ((i : Int) + 1) (mU N 172 s.length (if w (315 + 2 * i) = 9 then x + y else if z = 0 then 0 else 1)) ∨ ¬ I32 z := fun z => by
          by_cases hz : I32 z
          · refine Or.inl ?_
            unfold mo_holdsLine_J218
            rw [bq_ne (by omega) (by decide), show (((s.length + 1 + 1 : Nat) : Int) + (-1) - 1).toNat = s.length by omega, show ((s.length + 1 + 1 : Nat) : Int) + (-1) = ((s.length + 1 : Nat) : Int) by omega, bq_in (by omega) (by omega), bq_in (by omega) (by omega), bq_in (by omega) (by omega), sM_eq, sM_eq, sM_eq, bq_eq hz (by decide)]
            by_cases h9 : w (315 + 2 * i) = 9
            · rw [if_pos h9, if_pos h9]
            · rw [if_neg h9, if_neg h9]
              by_cases hz0 : z = 0
              · rw [if_pos hz0, if_pos hz0]
              · rw [if_neg hz0, if_neg hz0]
          · exact Or.inr hz
        have J0 := (J 0).resolve_right (by decide)
        have J1 := (J 1).resolve_right (by decide)
        rw [if_pos rfl] at J0
        rw [if_neg (by decide : ¬ (1 : Int) = 0)] at J1
        unfold ljoin
        by_cases h9 : w (315 + 2 * i) = 9
        · rw [if_pos h9] at J0 J1
          rw [if_pos h9, if_neg (by omega), bq_ne (by omega) (by decide), if_neg (by omega), bq_ne (by omega) (by decide), if_neg (by omega), J0, J1]
          cases cmpB .le (x + y) 0 <;> rfl
        · rw [if_neg h9] at J0 J1
          rw [if_neg h9]
          by_cases h10 : w (315 + 2 * i) = 10
          · rw [if_pos h10, if_pos h10, J0, J1]
            cases cmpB .ge x y <;> rfl
          · have h11 : w (315 + 2 * i) = 11 := by omega
            rw [if_neg h10, if_neg h10, bq_ne (by omega) (by decide), if_pos h11, if_pos h11, J0, J1]
            cases cmpB .le x y <;> rfl
    · rw [g1] at hv
      obtain ⟨y, x, s, rfl, v1, v2, v3⟩ := VT_2 hv
      have y01 := v1 rfl
      have x01 := v2 rfl
      have hy : N 172 (s.length + 1) = y := hst.1
      have hx : N 172 s.length = x := hst.2.1
      have hb : s.length ≤ 30 := by rw [g1] at hts; simp only [List.length_cons] at hts; have := VT_len v3; omega
      have e1 : (((s.length + 1 + 1 : Nat) : Int) + (-1) - 1).toNat = s.length := by omega
      have e2 : (((s.length + 1 + 1 : Nat) : Int) + (-1)).toNat = s.length + 1 := by omega
      refine fin (ljoin (w (315 + 2 * i)) x y :: s) (mU N 172 s.length (ljoin (w (315 + 2 * i)) x y)) ?_ ?_ ?_ (fun p hp => mU_ne hp) (pre _ ?_)
      · unfold lstep; rw [if_neg (by omega), if_neg (by omega)]
      · rw [g2]
        refine ⟨fun _ => ?_, v3⟩
        unfold ljoin
        rw [if_neg (by omega)]
        split
        · exact b2_01 _
        · split
          · exact b2_01 _
          · split
            · exact b2_01 _
            · exact b2_01 _
      · rw [mU_eq]; exact StR_push hst.2.2
      · simp only [List.length_cons]
        rw [e1, e2, hx, hy, bq_gt (by omega) (by decide), if_pos (by omega), bq_ne (by omega) (by decide), if_neg (by omega), bq_in (by omega) (by omega), bq_in (by omega) (by omega), bq_ne (by omega) (by decide), if_neg (by omega), bq_ne (by omega) (by decide), if_neg (by omega), bq_ne (by omega) (by decide), bq_le (by omega) (by decide), bq_ne (by omega) (by decide)]
        have J : ∀ z, (z = 0 ∨ z = 1) → mo_holdsLine_J218 (267 + 4 * (l : Int)) (mo_holdsLine_L20 (267 + 4 * (l : Int)) K n) K (((s.length + 1 + 1 : Nat) : Int) + (-1)) (i : Int) (w (315 + 2 * i)) x y z N = mo_holdsLine_L20 (267 + 4 * (l : Int)) K n ((s.length + 1 : Nat) : Int) ((i : Int) + 1) (mU N 172 s.length z) := fun z hz => by
          unfold mo_holdsLine_J218
          rw [bq_ne (by omega) (by decide), if_neg (by omega), show (((s.length + 1 + 1 : Nat) : Int) + (-1) - 1).toNat = s.length by omega, show ((s.length + 1 + 1 : Nat) : Int) + (-1) = ((s.length + 1 : Nat) : Int) by omega, bq_in (by omega) (by omega), bq_in (by omega) (by omega), sM_eq, sM_eq, bq_eq (by omega) (by decide)]
          rcases hz with rfl | rfl
          · rw [if_pos rfl]
          · rw [if_neg (by decide)]
        rw [J 0 (Or.inl rfl), J 1 (Or.inr rfl)]
        unfold ljoin
        rw [if_neg (show ¬ w (315 + 2 * i) = 9 by omega), if_neg (show ¬ w (315 + 2 * i) = 10 by omega), if_neg (show ¬ w (315 + 2 * i) = 11 by omega)]
        by_cases h13 : w (315 + 2 * i) = 13
        · rw [if_pos h13, if_pos h13]
          by_cases h2 : x + y = 2
          · rw [if_pos h2, decide_eq_true h2]; rfl
          · rw [if_neg h2, decide_eq_false h2]; rfl
        · rw [if_neg h13, if_neg h13]
          by_cases h2 : x + y ≤ 0
          · rw [if_pos h2, decide_eq_false (show ¬ 0 < x + y by omega)]; rfl
          · rw [if_neg h2, decide_eq_true (show 0 < x + y by omega)]; rfl
