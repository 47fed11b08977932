/-! ===== LOCKS, the reference; as a call ===== -/
theorem fo_add {α : Type} {g : Nat → α → α} : ∀ b a i s, fo g (a + b) i s = fo g b (i + a) (fo g a i s)
  | 0, a, i, s => rfl
  | b + 1, a, i, s => by
    rw [← Nat.add_assoc, fo_s, fo_add b a i s, fo_s, show i + a + b = i + (a + b) by omega]
theorem fo_sh {α : Type} {g : Nat → α → α} (c : Nat) : ∀ n i s, fo (fun j => g (c + j)) n i s = fo g n (c + i) s
  | 0, i, s => rfl
  | n + 1, i, s => by
    show fo (fun j => g (c + j)) n (i + 1) (g (c + i) s) = fo g n (c + i + 1) (g (c + i) s)
    rw [fo_sh c n (i + 1), Nat.add_assoc]
theorem fo_mul {α : Type} {g : Nat → α → α} (c : Nat) : ∀ k i s, fo (fun m s => fo (fun j => g (c * m + j)) c 0 s) k i s = fo g (c * k) (c * i) s
  | 0, i, s => rfl
  | k + 1, i, s => by
    show fo _ k (i + 1) (fo (fun j => g (c * i + j)) c 0 s) = _
    rw [fo_mul c k (i + 1), fo_sh (g := g) (c * i) c 0 s, Nat.mul_succ c k, Nat.add_comm (c * k) c, fo_add, Nat.mul_succ c i, Nat.add_zero]
section LocksR
variable {M : MM} {T : Nat → Int} {m n : Nat}
theorem tells_run {K : Int → MM → OR} {mk vl : Int} (hvl : I32 vl) (hT : ∀ j, j < m → 0 ≤ T (2 * j) ∧ T (2 * j) < 16 ∧ 0 ≤ T (2 * j + 1) ∧ T (2 * j + 1) < 2) (h170 : ∀ j, j < n → M 170 j = sgB (T j)) (hn : n = 2 * m) (hm : m ≤ 200) (h10 : M 165 10 = n) : ∀ d F i, i + d = m → d + 1 < F → mo_tellsAll_L5 mk vl K F 1 ((2 * i : Nat) : Int) M = K (b2 (tlB T mk vl d i)) M
  | 0, F, i, hi, hF => by
    obtain ⟨f, rfl⟩ : ∃ n, F = n + 1 := ⟨F - 1, by omega⟩
    rw [mo_tellsAll_L5, h10, bq_ge (by omega) (by omega), if_pos (by omega)]; rfl
  | d + 1, F, i, hi, hF => by
    obtain ⟨f, rfl⟩ : ∃ n, F = n + 1 := ⟨F - 1, by omega⟩
    obtain ⟨g, rfl⟩ : ∃ n, f = n + 1 := ⟨f - 1, by omega⟩
    have t := hT i (by omega)
    have e1 : M 170 (2 * i) = T (2 * i) := by rw [h170 _ (by omega)]; unfold sgB; rw [if_pos (by omega)]
    have e2 : M 170 (2 * i + 1) = T (2 * i + 1) := by rw [h170 _ (by omega)]; unfold sgB; rw [if_pos (by omega)]
    have stop : ∀ v : Int, I32 v → mo_tellsAll_L5 mk vl K (g + 1) 0 v M = K 0 M := fun v hv => by
      rw [mo_tellsAll_L5, h10, bq_ge hv (by omega)]
      by_cases g1 : (n : Int) ≤ v
      · rw [if_pos g1]
      · rw [if_neg g1, bq_eq (by decide) (by decide), if_pos rfl]
    rw [mo_tellsAll_L5, h10, bq_ge (by omega) (by omega), if_neg (by omega), bq_eq (by decide) (by decide), if_neg (by decide), bq_in (by omega) (by omega), Int.toNat_natCast, mo_isFit_b hvl, bq_in (by omega) (by omega), show ((2 * i : Nat) : Int) + 1 = ((2 * i + 1 : Nat) : Int) by omega, Int.toNat_natCast, e1, e2, bq_ne (by omega) (by decide), tlB, bz_ne0, bz_ne1, show ((2 * i : Nat) : Int) + 2 = ((2 * (i + 1) : Nat) : Int) by omega]
    by_cases c1 : T (2 * i + 1) = 1
    · rw [if_pos c1, decide_eq_true c1]
      cases fitB (T (2 * i)) mk vl with
      | true =>
        rw [cn_t, show (true == true) = true from rfl, Bool.true_and]
        exact tells_run hvl hT h170 hn hm h10 d (g + 1) (i + 1) (by omega) (by omega)
      | false =>
        rw [cn_f, stop _ (by omega)]; rfl
    · rw [if_neg c1, decide_eq_false c1]
      cases fitB (T (2 * i)) mk vl with
      | true =>
        rw [cn_t, stop _ (by omega)]; rfl
      | false =>
        rw [cn_f, show (false == false) = true from rfl, Bool.true_and]
        exact tells_run hvl hT h170 hn hm h10 d (g + 1) (i + 1) (by omega) (by omega)
theorem tells_b {k : Int → MM → OR} {mk vl : Int} (hvl : I32 vl) (hT : ∀ j, j < m → 0 ≤ T (2 * j) ∧ T (2 * j) < 16 ∧ 0 ≤ T (2 * j + 1) ∧ T (2 * j + 1) < 2) (h170 : ∀ j, j < n → M 170 j = sgB (T j)) (hn : n = 2 * m) (hm : m ≤ 200) (h10 : M 165 10 = n) : bI (mo_tellsAll mk vl M) k = k (b2 (tlB T mk vl m 0)) M := by
  unfold mo_tellsAll
  have := tells_run (mk := mk) (K := fun v3_4 M_5 => (bif zo v3_4 then some (rI v3_4, M_5) else none)) hvl hT h170 hn hm h10 m FU 0 (by omega) (FU_gt (by omega))
  rw [show mo_tellsAll_L5 mk vl _ FU 1 0 M = _ from this, bz_zo, bI_I]
theorem sh4 {y : Nat} (h : y < 256) : iShr (y : Int) 4 = ((y / 16 : Nat) : Int) := by
  have := nu_shr (a := y) (k := 4) (by omega) (by decide)
  rw [Nat.shiftRight_eq_div_pow] at this
  exact this
theorem locks_ref {K : Int → Int → MM → OR} {v1 : Int} (hT : ∀ j, j < m → 0 ≤ T (2 * j) ∧ T (2 * j) < 16 ∧ 0 ≤ T (2 * j + 1) ∧ T (2 * j + 1) < 2) (h170 : ∀ j, j < n → M 170 j = sgB (T j)) (hn : n = 2 * m) (hm : m ≤ 200) (h10 : M 165 10 = n) : mo_locks_L35 v1 K FU 0 (-1) 0 M = K (lkV T m).1 (lkV T m).2 M := by
  have inner : ∀ (u : Nat) (K : Int → Int → MM → OR) (a : Int × Int), u < 16 → lkP (16 * u) a → mo_locks_L45 v1 (u : Int) K FU a.1 a.2 0 M = K (fo (fun j => lkG (lkOK T m) (16 * u + j)) 16 0 a).1 (fo (fun j => lkG (lkOK T m) (16 * u + j)) 16 0 a).2 M := by
    intro u K a hu ha
    have run := fo_runP0 (F := FU) (a := a) (L := fun F (a : Int × Int) i => mo_locks_L45 v1 (u : Int) K F a.1 a.2 i M) (K := fun a => K a.1 a.2 M) (g := fun j => lkG (lkOK T m) (16 * u + j)) (N := 16) (P := fun j a => lkP (16 * u + j) a) (fun n a j hj ha => ?_) (fun n a ha => ?_) (fun j a hj ha => lkP_G (show 16 * u + j < 256 by omega) ha) (FU_gt (by decide)) ha
    · exact run
    · obtain ⟨a1, a2⟩ := ha
      have ed : (16 * u + j) / 16 = u := by omega
      have em : (16 * u + j) % 16 = j := by omega
      rw [mo_locks_L45, bq_ge (by omega) (by decide), if_neg (by omega), bq_ne (I32_and _ _) (by decide)]
      show _ = mo_locks_L45 v1 (u : Int) K _ (lkG (lkOK T m) (16 * u + j) a).1 (lkG (lkOK T m) (16 * u + j) a).2 _ M
      unfold lkG lkOK
      rw [ed, em]
      by_cases h0 : iAnd (j : Int) (iXor (u : Int) (-1)) = 0
      · rw [if_pos h0, decide_eq_true h0, Bool.true_and, tells_b (by omega) hT h170 hn hm h10, bz_ne0]
        cases tlB T (u : Int) (j : Int) m 0 with
        | false => rw [cn_f, cn_f]
        | true =>
          have bu := bcv_16 (x := u) (by omega)
          rw [cn_t, cn_t, bq_lt (by omega) (by decide)]
          by_cases h1 : a.2 < 0
          · rw [if_pos h1, if_pos (Or.inl (by omega)), show 16 * (u : Int) + (j : Int) = ((16 * u + j : Nat) : Int) by omega]
          · obtain ⟨y, hy⟩ : ∃ y : Nat, a.2 = (y : Int) := ⟨a.2.toNat, by omega⟩
            have by' := bcv_16 (x := y / 16) (by omega)
            rw [if_neg h1, bc_v, bI_I, hy, sh4 (by omega), bc_v, bI_I, bq_ge (by omega) (by omega), Int.toNat_natCast]
            by_cases h3 : bcv ((y / 16 : Nat) : Int) ≤ bcv (u : Int)
            · rw [if_pos h3, if_neg (by omega)]
            · rw [if_neg h3, if_pos (by omega), show 16 * (u : Int) + (j : Int) = ((16 * u + j : Nat) : Int) by omega]
      · rw [if_neg h0, decide_eq_false h0, Bool.false_and, cn_f]
    · rw [mo_locks_L45, bq_ge (by decide) (by decide), if_pos (by decide)]
  have run := fo_runP0 (F := FU) (a := ((0 : Int), (-1 : Int))) (L := fun F (a : Int × Int) i => mo_locks_L35 v1 K F a.1 a.2 i M) (K := fun a => K a.1 a.2 M) (g := fun u s => fo (fun j => lkG (lkOK T m) (16 * u + j)) 16 0 s) (N := 16) (P := fun u a => lkP (16 * u) a) (fun n a u hu ha => ?_) (fun n a ha => ?_) (fun u a hu ha => ?_) (FU_gt (by decide)) ⟨by decide, by decide⟩
  · rw [fo_mul (g := lkG (lkOK T m)) 16 16 0] at run
    exact run
  · rw [mo_locks_L35, bq_ge (by omega) (by decide), if_neg (by omega), inner u _ a hu ha]
  · rw [mo_locks_L35, bq_ge (by decide) (by decide), if_pos (by decide)]
  · have := fo_inv (g := fun j => lkG (lkOK T m) (16 * u + j)) (P := fun j a => lkP (16 * u + j) a) 16 0 a ha (fun j a h1 h2 h3 => lkP_G (show 16 * u + j < 256 by omega) h3)
    exact this
end LocksR
/-- what a call that used the tape up leaves -/
theorem used_up {n : Nat} {M M2 : MM} (T : TapeR M) (h : ∀ p, p ≠ 1 → p ≠ 165 → p ≠ 181 → p ≠ 999 → p ≠ 164 → p ≠ 180 → M2 p = M p) (h1 : M2 1 1 = 0) (h12 : M2 1 2 = M 1 2) (h8 : M2 165 8 = 0) (h13 : M2 165 13 = M 165 13) (h5 : M2 165 5 = M 165 5) (h6 : M2 165 6 = M 165 6) : CoreT M M2 ∧ TapeR M2 := by
  have e0 : M2 0 = M 0 := h 0 (by decide) (by decide) (by decide) (by decide) (by decide) (by decide)
  refine ⟨⟨fun a ha _ _ => ?_, ⟨h5, h6⟩, by rw [e0]; exact ⟨rfl, rfl, rfl⟩⟩, ?_⟩
  · unfold coreA at ha
    exact h a (by omega) (by omega) (by omega) (by omega) (by omega) (by omega)
  · obtain ⟨n, t1, t2, t3, t4, t5, t6⟩ := T
    exact ⟨0, h1, h8, by decide, by rw [h12, h13]; exact t4, by rw [h12]; exact t5, fun j hj => absurd hj (Nat.not_lt_zero j)⟩
theorem TapeR_n {M : MM} (T : TapeR M) : ∃ n : Nat, M 1 1 = n ∧ M 165 8 = n ∧ n ≤ 400 ∧ ∀ j, j < n → 0 ≤ M 2 j ∧ M 2 j < 256 ∧ M 170 j = sgB (M 2 j) := by
  obtain ⟨n, t1, t2, t3, t4, t5, t6⟩ := T
  exact ⟨n, t1, t2, t3, t6⟩
theorem prOK_t {T : Nat → Int} {a b : Int} {n : Nat} (h : prOK T a b n = true) : n = 2 * (n / 2) ∧ ∀ j, j < n / 2 → T (2 * j) < a ∧ T (2 * j + 1) < b := by
  unfold prOK at h
  rw [Bool.and_eq_true] at h
  have h1 := of_decide_eq_true h.1
  exact ⟨by omega, fun j hj => twOK_at (n / 2) 0 h.2 j (Nat.zero_le _) (by omega)⟩
theorem ok_locks {v1 : Int} (hv : v1 = 0 ∨ v1 = 1) : OpOK (drv_locks v1) (mo_locks v1) := by
  refine op_tape fun k M hk hI hx => ?_
  obtain ⟨n, t1, t2, t3, t4⟩ := TapeR_n hI.1
  have hx9 := hI.2.2.2.2.2.2.2.2.1
  unfold drv_locks gh_locks
  rw [useUp_b (fun j hj => ⟨(t4 j hj).1, (t4 j hj).2.1⟩) t1 (by decide) (by decide) t3]
  cases hp : prOK (M 2) 16 2 n with
  | true =>
    obtain ⟨p1, p2⟩ := prOK_t hp
    generalize hm : n / 2 = m at p1 p2
    have c1 : ∀ j, j < m → 0 ≤ M 2 (2 * j) ∧ M 2 (2 * j) < 16 ∧ 0 ≤ M 2 (2 * j + 1) ∧ M 2 (2 * j + 1) < 2 := fun j hj => ⟨(t4 (2 * j) (by omega)).1, (p2 j hj).1, (t4 (2 * j + 1) (by omega)).1, (p2 j hj).2⟩
    have hz : ∀ z : Int, z = (if v1 = 0 then (lkV (M 2) m).1 else (lkV (M 2) m).2) → I32 z := fun z e => by
      obtain ⟨q1, q2⟩ := lkV_P (T := M 2) (m := m)
      rw [e]
      split <;> omega
    refine ⟨0, if v1 = 0 then (lkV (M 2) m).1 else (lkV (M 2) m).2, mU (mU M 1 1 0) 181 0 (if v1 = 0 then (lkV (M 2) m).1 else (lkV (M 2) m).2), usM (mU (mU M 1 1 0) 181 0 (if v1 = 0 then (lkV (M 2) m).1 else (lkV (M 2) m).2)) n, ?_, ?_, rfl, by decide, fun _ => ⟨rfl, hz _ rfl⟩, ?_⟩
    · rw [if_pos rfl, bq_ne (by omega) (by decide), if_neg (by omega), locksAnswer_b (M := mU M 1 1 0) (T := M 2) hv (fun j hj => ⟨(c1 j hj).1, (c1 j hj).2.1⟩) (fun j hj => by have := c1 j hj; omega) rfl (by omega), bH_I, bq_in (by decide) (by decide), sM_eq, nw (hz _ rfl)]
    · generalize hz2 : (if v1 = 0 then (lkV (M 2) m).1 else (lkV (M 2) m).2) = z
      unfold mo_locks
      rw [readTwos_b (T := M 2) (M := mU (mU M 1 1 0) 181 0 z) (a := 15) (b := 1) t4 t2 (by decide) (by decide) t3, show prOK (M 2) (15 + 1) (1 + 1) n = true from hp, bz_ne0, cn_t]
      unfold mo_locks_J18
      rw [mo_throwsIf_0, bq_eq (by decide) (by decide), if_pos rfl, locks_ref (M := usM (mU (mU M 1 1 0) 181 0 z) n) (T := M 2) (m := m) (n := n) c1 (fun j hj => (t4 j hj).2.2) p1 (by omega) rfl]
      rcases hv with rfl | rfl
      · rw [bq_eq (by decide) (by decide), if_pos rfl, ← hz2, if_pos rfl]
      · rw [bq_eq (by decide) (by decide), if_neg (by decide), ← hz2, if_neg (by decide)]
    · generalize hz2 : (if v1 = 0 then (lkV (M 2) m).1 else (lkV (M 2) m).2) = z
      obtain ⟨u1, u2⟩ := used_up (n := n) (M2 := usM (mU (mU M 1 1 0) 181 0 z) n) hI.1 (fun p g1 g2 g3 g4 g5 g6 => by
        unfold usM
        rw [mU_ne g2, mU_ne g2, mU_ne g2, mU_ne g2, mU_ne g3, mU_ne g1]) rfl rfl rfl rfl rfl rfl
      exact ⟨u1, u2, hx9.1, by show M 999 0 ≤ _; omega⟩
  | false =>
    refine ⟨1, 0, xM (mU M 1 1 0), mU (usM (xM (mU M 1 1 0)) n) 165 0 1, ?_, ?_, rfl, by decide, fun g => absurd g (by decide), ?_⟩
    · rw [if_neg (by decide), bq_ne (by decide) (by decide), if_pos rfl, thx_v (M := mU M 1 1 0) hx, bH_X]; rfl
    · unfold mo_locks
      rw [readTwos_b (T := M 2) (M := xM (mU M 1 1 0)) (a := 15) (b := 1) t4 t2 (by decide) (by decide) t3, show prOK (M 2) (15 + 1) (1 + 1) n = false from hp, bz_ne0, cn_f]
      unfold mo_locks_J18
      rw [mo_throwsIf_1, bq_eq (by decide) (by decide), if_neg (by decide)]
    · obtain ⟨u1, u2⟩ := used_up (n := n) (M2 := mU (usM (xM (mU M 1 1 0)) n) 165 0 1) hI.1 (fun p g1 g2 g3 g4 g5 g6 => by
        unfold usM xM
        rw [mU_ne g2, mU_ne g2, mU_ne g2, mU_ne g2, mU_ne g2, mU_ne g4, mU_ne g1]) rfl rfl rfl rfl rfl rfl
      exact ⟨u1, u2, by show 0 ≤ M 999 0 + 1; omega, by show M 999 0 + 1 ≤ _; omega⟩
