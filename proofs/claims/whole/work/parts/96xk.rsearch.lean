/-! ===== THE REFERENCE SEARCHES ===== -/
def RSt (w : Nat → Int) (N : MM) (n : Nat) (f : Nat → Nat) (o : Bool) : Prop := (N 165 25 = (n : Int) ∧ n ≤ 6000) ∧ (∀ i, i < n → N 173 i = ((f i : Nat) : Int)) ∧ HTb hsR (N 173) n (N 174) ∧ (∀ i, i < n → Rch w (f i)) ∧ (∀ i j, i < n → j < n → f i = f j → i = j) ∧ (o = true → Big w)
def FrR (N0 N : MM) : Prop := (∀ p, p ≠ 165 → p ≠ 172 → p ≠ 173 → p ≠ 174 → N p = N0 p) ∧ ∀ j, (j < 17 ∨ 22 < j) → j ≠ 25 → N 165 j = N0 165 j
theorem FrR.rf {M : MM} : FrR M M := ⟨fun _ _ _ _ _ => rfl, fun _ _ _ => rfl⟩
theorem FrR.tr {M M1 M2 : MM} (h : FrR M M1) (g : FrR M1 M2) : FrR M M2 := ⟨fun p a b c d => by rw [g.1 p a b c d, h.1 p a b c d], fun j a b => by rw [g.2 j a b, h.2 j a b]⟩
def SR (w : Nat → Int) (N0 N : MM) (n : Nat) (f : Nat → Nat) (o : Bool) : Prop := RSt w N n f o ∧ N 166 = w ∧ FrR N0 N
theorem SR_ts {w : Nat → Int} {N0 N N' : MM} {n : Nat} {f : Nat → Nat} {o : Bool} (h : Ts N N') (H : SR w N0 N n f o) : SR w N0 N' n f o := by
  obtain ⟨a, b, c⟩ := H
  refine ⟨?_, by rw [h.1 166 (by decide) (by decide)]; exact b, c.tr ⟨fun p x1 x2 _ _ => h.1 p x1 x2, fun j x1 _ => h.2 j x1⟩⟩
  unfold RSt at *
  rw [h.2 25 (by decide), h.1 173 (by decide) (by decide), h.1 174 (by decide) (by decide)]
  exact a
theorem oJ_63 {x : Nat} : oJ (some x) = (x : Int) := rfl
section SrchR
variable {w : Nat → Int} {m n : Nat} {f : Nat → Nat} {N0 N : MM}
theorem met_r (hW : WF m w) (hz : w 0 ≠ 0) {op : Option Nat} (H : SR w N0 N n f false) (hx : ∀ u, op = some u → Rch w u) : ∃ N' n' f' o', (∀ k : Int → MM → OR, bI (mo_isMet (oJ op) N) k = k (b2 (!o')) N') ∧ SR w N0 N' n' f' o' ∧ Ext n f false n' f' o' ∧ n' ≤ n + 1 ∧ ∀ u, op = some u → Cov n' f' o' u := by
  cases op with
  | none =>
    refine ⟨N, n, f, false, fun k => ?_, H, Ext.rf, by omega, fun u hu => absurd hu (by simp)⟩
    unfold mo_isMet
    rw [show oJ none = -1 from rfl, lc_neg, bq_ge (by decide) (by decide), if_neg (by decide)]; rfl
  | some x =>
    have hxx := hx x rfl
    have hGx := GS_rch hW hz hxx
    have hx63 : ∀ y, Rch w y → y < 9223372036854775808 := fun y hy => (GS_rch hW hz hy).1.m
    obtain ⟨⟨⟨h3, hn⟩, h1, hT, hR, hinj, hB⟩, hw, hfr⟩ := H
    obtain ⟨v0, v1⟩ := hsR_v ((x : Nat) : Int)
    obtain ⟨d, d1, d2, d3⟩ := HT_probe hT hn ((x : Nat) : Int) v1
    generalize hh : hsR ((x : Nat) : Int) = h at *
    have hIx : ∀ i, i < n → (f i ≠ x ↔ N 173 i ≠ ((x : Nat) : Int)) := fun i hi => by
      rw [h1 i hi]
      omega
    have walk : ∀ (K1 : Int → MM → OR) (K2 : MM → OR) (e F : Nat), e ≤ d → d - e < F → mo_isMet_L27 ((x : Nat) : Int) K1 K2 F (((h + e) % 16384 : Nat) : Int) N = if N 174 ((h + d) % 16384) = 0 then K1 (((h + d) % 16384 : Nat) : Int) N else K2 N := by
      intro K1 K2 e F he hF
      obtain ⟨c, hc⟩ : ∃ c, c = d - e := ⟨_, rfl⟩
      induction c generalizing e F with
      | zero =>
        obtain ⟨q', rfl⟩ : ∃ n, F = n + 1 := ⟨F - 1, by omega⟩
        obtain rfl : e = d := by omega
        have b := hT.1 ((h + e) % 16384) (by omega)
        rw [mo_isMet_L27, bq_in (by omega) (by omega), Int.toNat_natCast, bq_eq (by omega) (by decide)]
        rcases d3 with ⟨g1, g2⟩ | ⟨g1, g2⟩
        · rw [if_pos g1, if_pos g1]
        · rw [if_neg g1, if_neg g1, bq_in (by omega) (by omega), bq_in (by omega) (by omega), show (N 174 ((h + e) % 16384) - 1).toNat = (N 174 ((h + e) % 16384)).toNat - 1 by omega, g2, lc_q (hx63 x hxx) (hx63 x hxx), if_pos rfl]
      | succ c ih =>
        obtain ⟨q', rfl⟩ : ∃ n, F = n + 1 := ⟨F - 1, by omega⟩
        have b := hT.1 ((h + e) % 16384) (by omega)
        have ns := d2 e (by omega)
        unfold hStop at ns
        rw [hh] at ns
        have n0 : N 174 ((h + e) % 16384) ≠ 0 := fun g => ns (Or.inl g)
        have n1 : N 173 ((N 174 ((h + e) % 16384)).toNat - 1) ≠ ((x : Nat) : Int) := fun g => ns (Or.inr g)
        have hidx : (N 174 ((h + e) % 16384)).toNat - 1 < n := by omega
        rw [h1 _ hidx] at n1
        rw [mo_isMet_L27, bq_in (by omega) (by omega), Int.toNat_natCast, bq_eq (by omega) (by decide), if_neg n0, bq_in (by omega) (by omega), bq_in (by omega) (by omega), show (N 174 ((h + e) % 16384) - 1).toNat = (N 174 ((h + e) % 16384)).toNat - 1 by omega, h1 _ hidx, lc_q (hx63 _ (hR _ hidx)) (hx63 x hxx), if_neg (fun g => n1 (by rw [g]))]
        have et : iAnd ((((h + e) % 16384 : Nat) : Int) + 1) 16383 = (((h + (e + 1)) % 16384 : Nat) : Int) := by
          have a1 : iAnd (((h + e) % 16384 + 1 : Nat) : Int) 16383 = (((h + e) % 16384 + 1 &&& 16383 : Nat) : Int) := nu_andb (m := 16383) (by decide)
          have a2 : (h + e) % 16384 + 1 &&& (2 ^ 14 - 1) = ((h + e) % 16384 + 1) % 2 ^ 14 := Nat.and_two_pow_sub_one_eq_mod _ _
          have a3 : (2 : Nat) ^ 14 = 16384 := rfl
          rw [a3] at a2
          rw [show (((h + e) % 16384 : Nat) : Int) + 1 = (((h + e) % 16384 + 1 : Nat) : Int) by omega, a1, show (16383 : Nat) = 16384 - 1 from rfl, a2]
          omega
        rw [et]
        exact ih (e + 1) q' (by omega) (by omega) (by omega)
    have start : ∀ (K1 : Int → MM → OR) (K2 : MM → OR), mo_isMet_L27 ((x : Nat) : Int) K1 K2 FU (iAnd (lUshr ((lXor ((x : Nat) : Int) (lShr ((x : Nat) : Int) 27)) * 2654435761) 18) 16383) N = if N 174 ((h + d) % 16384) = 0 then K1 (((h + d) % 16384 : Nat) : Int) N else K2 N := fun K1 K2 => by
      rw [v0]
      have := walk K1 K2 0 FU (Nat.zero_le _) (FU_gt (by omega))
      rw [Nat.add_zero, Nat.mod_eq_of_lt v1] at this
      exact this
    have hge : ∀ {α : Type} (a b : α), (bif cmpB .ge (lCmp ((x : Nat) : Int) 0) 0 then a else b) = a := fun a b => by
      have := lc_nat (hx63 x hxx)
      rw [bq_ge (by omega) (by decide), if_pos (by omega)]
    rw [oJ_63]
    rcases d3 with ⟨g1, g2⟩ | ⟨g1, g2⟩
    · by_cases h6 : n < 6000
      · have hT' := HT_add hT d1 d2 (by rw [hh]; exact g1)
        rw [hh] at hT'
        obtain ⟨N', hN'⟩ : ∃ N', N' = mU (mU (mU N 173 n ((x : Nat) : Int)) 165 25 ((n + 1 : Nat) : Int)) 174 ((h + d) % 16384) ((n + 1 : Nat) : Int) := ⟨_, rfl⟩
        have m1 : N' 173 = up (N 173) n ((x : Nat) : Int) := by rw [hN', mU_ne (by decide), mU_ne (by decide), mU_eq]
        have m2 : N' 174 = up (N 174) ((h + d) % 16384) ((n + 1 : Nat) : Int) := by rw [hN', mU_eq, mU_ne (by decide), mU_ne (by decide)]
        have m0 : N' 165 = up (N 165) 25 ((n + 1 : Nat) : Int) := by rw [hN', mU_ne (by decide), mU_eq, mU_ne (by decide)]
        have mF : ∀ p, p ≠ 165 → p ≠ 173 → p ≠ 174 → N' p = N p := fun p a b c => by rw [hN', mU_ne c, mU_ne a, mU_ne b]
        have run : ∀ k : Int → MM → OR, bI (mo_isMet ((x : Nat) : Int) N) k = k (b2 (!false)) N' := fun k => by
          unfold mo_isMet
          rw [hge, start, if_pos g1]
          have e1 : (mU N 173 n ((x : Nat) : Int)) 165 25 + 1 = ((n + 1 : Nat) : Int) := by rw [mU_ne (by decide), h3]; omega
          have e2 : (mU (mU N 173 n ((x : Nat) : Int)) 165 25 ((n + 1 : Nat) : Int)) 165 25 = ((n + 1 : Nat) : Int) := by rw [mU_ap, if_pos rfl, if_pos rfl]
          rw [h3, bq_ne (by omega) (by decide), if_neg (by omega), bq_in (by omega) (by omega), sM_eq, sM_eq, Int.toNat_natCast, bq_in (by omega) (by omega), sM_eq, bI_I, e1, Int.toNat_natCast, e2, ← hN']; rfl
        clear hN'
        refine ⟨N', n + 1, up f n x, false, run, ⟨⟨⟨by rw [m0, up_eq], by omega⟩, fun i hi => ?_, by rw [m1, m2]; exact hT', fun i hi => ?_, fun i j hi hj e => ?_, hB⟩, by rw [mF 166 (by decide) (by decide) (by decide)]; exact hw, hfr.tr ⟨fun p a _ b c => mF p a b c, fun j a b => by rw [m0, up_ne b]⟩⟩, ⟨by omega, fun i hi => if_neg (by omega), fun e => e⟩, Nat.le_refl _, fun u hu => ?_⟩
        · rw [m1]
          show (if i = n then ((x : Nat) : Int) else N 173 i) = (((if i = n then x else f i) : Nat) : Int)
          by_cases e : i = n
          · rw [if_pos e, if_pos e]
          · rw [if_neg e, if_neg e]
            exact h1 i (by omega)
        · show Rch w (if i = n then x else f i)
          by_cases e : i = n
          · rw [if_pos e]; exact hxx
          · rw [if_neg e]; exact hR i (by omega)
        · have e' : (if i = n then x else f i) = if j = n then x else f j := e
          by_cases e1 : i = n
          · by_cases e2 : j = n
            · omega
            · rw [if_pos e1, if_neg e2] at e'
              exact absurd e'.symm ((hIx j (by omega)).mpr (g2 j (by omega)))
          · by_cases e2 : j = n
            · rw [if_neg e1, if_pos e2] at e'
              exact absurd e' ((hIx i (by omega)).mpr (g2 i (by omega)))
            · rw [if_neg e1, if_neg e2] at e'
              exact hinj i j (by omega) (by omega) e'
        · obtain rfl := Option.some.inj hu
          exact Or.inr ⟨n, by omega, if_pos rfl⟩
      · have hbig : Big w := by
          obtain rfl : n = 6000 := by omega
          exact big_of hR hinj hxx (fun i hi => (hIx i hi).mpr (g2 i hi))
        refine ⟨N, n, f, true, fun k => ?_, ⟨⟨⟨h3, hn⟩, h1, hT, hR, hinj, fun _ => hbig⟩, hw, hfr⟩, ⟨Nat.le_refl n, fun _ _ => rfl, fun _ => rfl⟩, by omega, fun u _ => Or.inl rfl⟩
        unfold mo_isMet
        rw [hge, start, if_pos g1, h3, bq_ne (by omega) (by decide), if_pos (by omega), bI_I]; rfl
    · refine ⟨N, n, f, false, fun k => ?_, ⟨⟨⟨h3, hn⟩, h1, hT, hR, hinj, hB⟩, hw, hfr⟩, Ext.rf, by omega, fun u hu => ?_⟩
      · unfold mo_isMet
        rw [hge, start, if_neg g1, bI_I]; rfl
      · obtain rfl := Option.some.inj hu
        have b := hT.1 ((h + d) % 16384) (by omega)
        have hidx : (N 174 ((h + d) % 16384)).toNat - 1 < n := by omega
        exact Or.inr ⟨_, hidx, Classical.byContradiction fun g => (hIx _ hidx).mp g g2⟩
/-- going, in the reference -/
theorem mo_goes_b {N : MM} {k : Int → MM → OR} {s : Nat} {r : Nat} (hC : WC m (N 166)) (hP : WP (N 166)) (hR : WR (N 166)) (hT : WT (N 166)) (hO : LwOK (N 166)) (hm : m ≤ 1000) (hs : PK s) (hp : sPl s < N 166 0) (h1 : (r : Int) < N 166 2) : ∃ N', bJ (mo_goes (s : Int) (r : Int) N) k = k (oJ (sGo (N 166) s r)) N' ∧ Ts N N' := by
  have c0 := hC.1
  have c2 := hC.2.2.1
  have hf := fd_lt s 0 5
  have c32 : (2 : Nat) ^ 5 = 32 := rfl
  have hH := sHr_b (n := m) hR hO (show (0 : Int) ≤ r by omega) h1 s
  obtain ⟨N1, a1, a2⟩ := mo_canGo_v (r := (r : Int)) hC hP hR hT hO hm hs hp (by omega) h1
  have w1 : N1 166 = N 166 := a2.1 166 (by decide) (by decide)
  unfold mo_goes
  rw [a1, bI_I, bz_ne0]
  by_cases hc : sCan (N 166) s r = true
  · obtain ⟨N2, b1, b2, b3, b4, b5⟩ := mo_hoursBy_v (N := N1) (n := m) (s := s) (r := (r : Int)) (by rw [w1]; exact hC) (by rw [w1]; exact hR) (by rw [w1]; exact hT) (by rw [w1]; exact hO) hm hs (by omega) (by rw [w1]; exact h1)
    rw [w1] at b1 b4
    rw [hc, cn_t, mo_hoursOf_b hs, b1, bI_I, bq_le (by omega) (by decide)]
    refine ⟨N2, ?_, a2.tr b2⟩
    unfold sGo
    by_cases h30 : ((fd s 0 5 : Nat) : Int) + sHr (N 166) s r ≤ 30
    · have hsc := hc
      unfold sCan at hsc
      rw [Bool.and_eq_true] at hsc
      have hoe := of_decide_eq_true hsc.1
      have hoe2 := oE_b hC hR (p := sPl s) (show (0 : Int) ≤ r by omega) h1
      obtain ⟨h, hh⟩ : ∃ h : Nat, ((fd s 0 5 : Nat) : Int) + sHr (N 166) s r = (h : Int) := ⟨(((fd s 0 5 : Nat) : Int) + sHr (N 166) s r).toNat, by omega⟩
      obtain ⟨q, hq⟩ : ∃ q : Nat, oE (N 166) (r : Int) (sPl s) = (q : Int) := ⟨(oE (N 166) (r : Int) (sPl s)).toNat, by omega⟩
      have k1 : PK (wt s 0 5 h) := wt_PK hs (show h < 32 by omega) (by omega)
      have k2 : PK (wt (wt s 0 5 h) 5 4 q) := wt_PK k1 (show q < 16 by omega) (by omega)
      have m1 : ∀ kk : Int → MM → OR, bJ (mo_with (s : Int) 0 5 (h : Int) N2) kk = kk (wt s 0 5 h : Nat) N2 := fun kk => mo_with_b (f := 0) (b := 5) hs (by omega) (by omega) (show h < 32 by omega)
      have m2 : ∀ kk : Int → MM → OR, bJ (mo_with ((wt s 0 5 h : Nat) : Int) 5 4 (q : Int) N2) kk = kk (wt (wt s 0 5 h) 5 4 q : Nat) N2 := fun kk => mo_with_b (f := 5) (b := 4) k1 (by omega) (by omega) (show q < 16 by omega)
      have m3 : ∀ kk : Int → MM → OR, bJ (mo_with ((wt (wt s 0 5 h) 5 4 q : Nat) : Int) 9 5 ((r + 1 : Nat) : Int) N2) kk = kk (wt (wt (wt s 0 5 h) 5 4 q) 9 5 (r + 1) : Nat) N2 := fun kk => mo_with_b (f := 9) (b := 5) k2 (by omega) (by omega) (show r + 1 < 32 by omega)
      rw [if_pos h30, if_pos ⟨hc, h30⟩, hh, m1, b4, hq, m2, show (r : Int) + 1 = ((r + 1 : Nat) : Int) by omega, m3, bJ_J, Int.toNat_natCast, Int.toNat_natCast, Int.toNat_natCast]; rfl
    · rw [if_neg h30, if_neg (fun g => h30 g.2)]; rfl
  · have hcf : sCan (N 166) s r = false := by
      cases h : sCan (N 166) s r with
      | true => exact absurd h hc
      | false => rfl
    rw [hcf, cn_f]
    refine ⟨N1, ?_, a2⟩
    unfold sGo
    rw [if_neg (fun g => by rw [hcf] at g; exact absurd g.1 (by decide))]; rfl
end SrchR
