/-! ===== WALKS THAT GROW A LIST; the class adds a state ===== -/
def Ext (n : Nat) (f : Nat → Nat) (o : Bool) (n' : Nat) (f' : Nat → Nat) (o' : Bool) : Prop := n ≤ n' ∧ (∀ i, i < n → f' i = f i) ∧ (o = true → o' = true)
def Cov (n : Nat) (f : Nat → Nat) (o : Bool) (u : Nat) : Prop := o = true ∨ ∃ i, i < n ∧ f i = u
section Wk
variable {n n' n'' : Nat} {f f' f'' : Nat → Nat} {o o' o'' : Bool}
theorem Ext.rf : Ext n f o n f o := ⟨Nat.le_refl n, fun _ _ => rfl, fun h => h⟩
theorem Ext.tr (h : Ext n f o n' f' o') (g : Ext n' f' o' n'' f'' o'') : Ext n f o n'' f'' o'' := ⟨Nat.le_trans h.1 g.1, fun i hi => by rw [g.2.1 i (Nat.lt_of_lt_of_le hi h.1), h.2.1 i hi], fun e => g.2.2 (h.2.2 e)⟩
theorem Cov.up {u : Nat} (h : Cov n f o u) (g : Ext n f o n' f' o') : Cov n' f' o' u := by
  rcases h with h | ⟨i, hi, e⟩
  · exact Or.inl (g.2.2 h)
  · exact Or.inr ⟨i, Nat.lt_of_lt_of_le hi g.1, by rw [g.2.1 i hi, e]⟩
theorem walk_loop {S : MM → Nat → (Nat → Nat) → Bool → Prop} {L : Nat → Bool → Int → MM → OR} {K : Bool → MM → OR} {N : Nat} {G : Nat → Nat → Prop} (hs : ∀ F i M n f o, i < N → S M n f o → ∃ M' n' f' o', L (F + 1) o (i : Int) M = L F o' ((i : Int) + 1) M' ∧ S M' n' f' o' ∧ Ext n f o n' f' o' ∧ ∀ u, G i u → Cov n' f' o' u) (he : ∀ F M n f o, S M n f o → L (F + 1) o (N : Int) M = K o M) :
    ∀ k F i M n f o, k + i = N → k < F → S M n f o → ∃ M' n' f' o', L F o (i : Int) M = K o' M' ∧ S M' n' f' o' ∧ Ext n f o n' f' o' ∧ ∀ j u, i ≤ j → j < N → G j u → Cov n' f' o' u
  | 0, F, i, M, n, f, o, hk, hF, hS => by
    obtain ⟨q, rfl⟩ : ∃ n, F = n + 1 := ⟨F - 1, by omega⟩
    obtain rfl : i = N := by omega
    exact ⟨M, n, f, o, he q M n f o hS, hS, Ext.rf, fun j u h1 h2 => absurd h2 (by omega)⟩
  | k + 1, F, i, M, n, f, o, hk, hF, hS => by
    obtain ⟨q, rfl⟩ : ∃ n, F = n + 1 := ⟨F - 1, by omega⟩
    obtain ⟨M1, n1, f1, o1, a1, a2, a3, a4⟩ := hs q i M n f o (by omega) hS
    obtain ⟨M2, n2, f2, o2, b1, b2, b3, b4⟩ := walk_loop hs he k q (i + 1) M1 n1 f1 o1 (by omega) (by omega) a2
    refine ⟨M2, n2, f2, o2, ?_, b2, a3.tr b3, fun j u h1 h2 hu => ?_⟩
    · rw [a1, show (i : Int) + 1 = ((i + 1 : Nat) : Int) by omega, b1]
    · by_cases e : j = i
      · subst e
        exact (a4 u hu).up b3
      · exact b4 j u (by omega) h2 hu
end Wk
/-- the class's list and table -/
def CSt (w : Nat → Int) (M : MM) (n : Nat) (f : Nat → Nat) (o : Bool) : Prop := (M 1000 3 = (n : Int) ∧ n ≤ 6000 ∧ M 1000 4 = b2 o) ∧ (∀ i, i < n → M 1001 i = ((cpk w (f i) : Nat) : Int)) ∧ HTb hsC (M 1001) n (M 1002) ∧ (∀ i, i < n → Rch w (f i)) ∧ (∀ i j, i < n → j < n → f i = f j → i = j) ∧ (o = true → Big w)
def FrC (M0 M : MM) : Prop := (∀ p, p ≠ 1000 → p ≠ 1001 → p ≠ 1002 → p ≠ 157 → p ≠ 21 → p ≠ 22 → M p = M0 p) ∧ ∀ j, j ≠ 3 → j ≠ 4 → M 1000 j = M0 1000 j
theorem FrC.rf {M : MM} : FrC M M := ⟨fun _ _ _ _ _ _ _ => rfl, fun _ _ _ => rfl⟩
theorem FrC.tr {M M1 M2 : MM} (h : FrC M M1) (g : FrC M1 M2) : FrC M M2 := ⟨fun p a b c d e k => by rw [g.1 p a b c d e k, h.1 p a b c d e k], fun j a b => by rw [g.2 j a b, h.2 j a b]⟩
theorem CSt_js {w : Nat → Int} {M M' : MM} {n : Nat} {f : Nat → Nat} {o : Bool} (h : Js M M') (H : CSt w M n f o) : CSt w M' n f o := by
  unfold CSt at *
  rw [h 1000 (by decide) (by decide) (by decide), h 1001 (by decide) (by decide) (by decide), h 1002 (by decide) (by decide) (by decide)]
  exact H
theorem FrC_js {M M' : MM} (h : Js M M') : FrC M M' := ⟨fun p _ _ _ a b c => h p a b c, fun j _ _ => by rw [h 1000 (by decide) (by decide) (by decide)]⟩
theorem big_of {w : Nat → Int} {f : Nat → Nat} {x : Nat} (hR : ∀ i, i < 6000 → Rch w (f i)) (hi : ∀ i j, i < 6000 → j < 6000 → f i = f j → i = j) (hx : Rch w x) (hn : ∀ i, i < 6000 → f i ≠ x) : Big w := by
  refine ⟨up f 6000 x, fun i h => ?_, fun i j h1 h2 e => ?_⟩
  · show Rch w (if i = 6000 then x else f i)
    by_cases e : i = 6000
    · rw [if_pos e]; exact hx
    · rw [if_neg e]; exact hR i (by omega)
  · have e' : (if i = 6000 then x else f i) = if j = 6000 then x else f j := e
    by_cases e1 : i = 6000
    · by_cases e2 : j = 6000
      · omega
      · rw [if_pos e1, if_neg e2] at e'
        exact absurd e'.symm (hn j (by omega))
    · by_cases e2 : j = 6000
      · rw [if_neg e1, if_pos e2] at e'
        exact absurd e' (hn i (by omega))
      · rw [if_neg e1, if_neg e2] at e'
        exact hi i j (by omega) (by omega) e'
section AddC
variable {w : Nat → Int} {n : Nat} {f : Nat → Nat} {o : Bool}
theorem add_c {q m : Nat} (hW : WF m w) (hz : w 0 ≠ 0) {M : MM} {x : Nat} (H : CSt w M n f o) (hx : Rch w x) : ∃ M' n' f' o', (∀ k : MM → OR, bV (srch_add q ((cpk w x : Nat) : Int) M) k = k M') ∧ CSt w M' n' f' o' ∧ FrC M M' ∧ Ext n f o n' f' o' ∧ Cov n' f' o' x := by
  obtain ⟨⟨h3, hn, h4⟩, h1, hT, hR, hinj, hB⟩ := H
  obtain ⟨v0, v1⟩ := hsC_v ((cpk w x : Nat) : Int)
  obtain ⟨d, d1, d2, d3⟩ := HT_probe hT hn ((cpk w x : Nat) : Int) v1
  generalize hh : hsC ((cpk w x : Nat) : Int) = h at *
  have hIx : ∀ i, i < n → (f i ≠ x ↔ M 1001 i ≠ ((cpk w x : Nat) : Int)) := fun i hi => by
    rw [h1 i hi]
    constructor
    · intro g e
      exact g (cpk_inj (GS_rch hW hz (hR i hi)) (GS_rch hW hz hx) (by omega))
    · intro g e
      rw [e] at g
      exact g rfl
  have walk : ∀ (K1 : Int → MM → OR) (K2 : MM → OR) (e F : Nat), e ≤ d → d - e < F → srch_add_L13 q ((cpk w x : Nat) : Int) K1 K2 F (((h + e) % 16384 : Nat) : Int) (e : Int) M = if M 1002 ((h + d) % 16384) = 0 then K1 (((h + d) % 16384 : Nat) : Int) M else K2 M := by
    intro K1 K2 e F he hF
    obtain ⟨c, hc⟩ : ∃ c, c = d - e := ⟨_, rfl⟩
    induction c generalizing e F with
    | zero =>
      obtain ⟨q', rfl⟩ : ∃ n, F = n + 1 := ⟨F - 1, by omega⟩
      obtain rfl : e = d := by omega
      have b := hT.1 ((h + e) % 16384) (by omega)
      rw [srch_add_L13, bq_ge (by omega) (by decide), if_neg (by omega), bq_in (by omega) (by omega), Int.toNat_natCast, bq_eq (by omega) (by decide)]
      rcases d3 with ⟨g1, g2⟩ | ⟨g1, g2⟩
      · rw [if_pos g1, if_pos g1]
      · rw [if_neg g1, if_neg g1, bq_in (by omega) (by omega), bq_in (by omega) (by omega), show (M 1002 ((h + e) % 16384) - 1).toNat = (M 1002 ((h + e) % 16384)).toNat - 1 by omega, g2, lc_q cpk_63 cpk_63, if_pos rfl]
    | succ c ih =>
      obtain ⟨q', rfl⟩ : ∃ n, F = n + 1 := ⟨F - 1, by omega⟩
      have b := hT.1 ((h + e) % 16384) (by omega)
      have ns := d2 e (by omega)
      unfold hStop at ns
      rw [hh] at ns
      have n0 : M 1002 ((h + e) % 16384) ≠ 0 := fun g => ns (Or.inl g)
      have n1 : M 1001 ((M 1002 ((h + e) % 16384)).toNat - 1) ≠ ((cpk w x : Nat) : Int) := fun g => ns (Or.inr g)
      have hidx : (M 1002 ((h + e) % 16384)).toNat - 1 < n := by omega
      rw [h1 _ hidx] at n1
      rw [srch_add_L13, bq_ge (by omega) (by decide), if_neg (by omega), bq_in (by omega) (by omega), Int.toNat_natCast, bq_eq (by omega) (by decide), if_neg n0, bq_in (by omega) (by omega), bq_in (by omega) (by omega), show (M 1002 ((h + e) % 16384) - 1).toNat = (M 1002 ((h + e) % 16384)).toNat - 1 by omega, h1 _ hidx, lc_q cpk_63 cpk_63, if_neg (fun g => n1 (by rw [g]))]
      have et : (w32 ((((h + e) % 16384 : Nat) : Int) + 1)).tmod (w32 16384) = (((h + (e + 1)) % 16384 : Nat) : Int) := by
        rw [nw (show I32 ((((h + e) % 16384 : Nat) : Int) + 1) by omega), show w32 16384 = 16384 from rfl, show (((h + e) % 16384 : Nat) : Int) + 1 = (((h + e) % 16384 + 1 : Nat) : Int) by omega]
        show (((((h + e) % 16384 + 1) % 16384 : Nat)) : Int) = _
        omega
      rw [et, show (e : Int) + 1 = ((e + 1 : Nat) : Int) by omega]
      exact ih (e + 1) q' (by omega) (by omega) (by omega)
  have start : ∀ (K1 : Int → MM → OR) (K2 : MM → OR), srch_add_L13 q ((cpk w x : Nat) : Int) K1 K2 FU (lUshr (((cpk w x : Nat) : Int) * (-7046029254386353131)) 50) 0 M = if M 1002 ((h + d) % 16384) = 0 then K1 (((h + d) % 16384 : Nat) : Int) M else K2 M := fun K1 K2 => by
    rw [v0]
    have := walk K1 K2 0 FU (Nat.zero_le _) (FU_gt (by omega))
    rw [Nat.add_zero, Nat.mod_eq_of_lt v1] at this
    exact this
  rcases d3 with ⟨g1, g2⟩ | ⟨g1, g2⟩
  · by_cases h6 : n < 6000
    · have hT' := HT_add hT d1 d2 (by rw [hh]; exact g1)
      rw [hh] at hT'
      obtain ⟨M', hM'⟩ : ∃ M', M' = mU (mU (mU M 1001 n ((cpk w x : Nat) : Int)) 1000 3 ((n + 1 : Nat) : Int)) 1002 ((h + d) % 16384) ((n + 1 : Nat) : Int) := ⟨_, rfl⟩
      have m1 : M' 1001 = up (M 1001) n ((cpk w x : Nat) : Int) := by rw [hM', mU_ne (by decide), mU_ne (by decide), mU_eq]
      have m2 : M' 1002 = up (M 1002) ((h + d) % 16384) ((n + 1 : Nat) : Int) := by rw [hM', mU_eq, mU_ne (by decide), mU_ne (by decide)]
      have m0 : M' 1000 = up (M 1000) 3 ((n + 1 : Nat) : Int) := by rw [hM', mU_ne (by decide), mU_eq, mU_ne (by decide)]
      have mF : ∀ p, p ≠ 1000 → p ≠ 1001 → p ≠ 1002 → M' p = M p := fun p a b c => by rw [hM', mU_ne c, mU_ne a, mU_ne b]
      have run : ∀ k : MM → OR, bV (srch_add q ((cpk w x : Nat) : Int) M) k = k M' := fun k => by
        unfold srch_add
        rw [start, if_pos g1]
        unfold srch_add_J63
        have e1 : (mU M 1001 n ((cpk w x : Nat) : Int)) 1000 3 + 1 = ((n + 1 : Nat) : Int) := by rw [mU_ne (by decide), h3]; omega
        have e2 : (mU (mU M 1001 n ((cpk w x : Nat) : Int)) 1000 3 ((n + 1 : Nat) : Int)) 1000 3 = ((n + 1 : Nat) : Int) := by rw [mU_ap, if_pos rfl, if_pos rfl]
        rw [h3, bq_lt (by omega) (by decide), if_pos (by omega), bq_in (by omega) (by omega), sM_eq, sM_eq, Int.toNat_natCast, bq_in (by omega) (by omega), sM_eq, bV_V, e1, Int.toNat_natCast, e2, ← hM']
      clear hM'
      refine ⟨M', n + 1, up f n x, o, run, ⟨⟨by rw [m0, up_eq], by omega, by rw [m0, up_ne (by decide)]; exact h4⟩, fun i hi => ?_, by rw [m1, m2]; exact hT', fun i hi => ?_, fun i j hi hj e => ?_, hB⟩, ⟨fun p a b c _ _ _ => mF p a b c, fun j a b => by rw [m0, up_ne a]⟩, ⟨by omega, fun i hi => if_neg (by omega), fun e => e⟩, Or.inr ⟨n, by omega, if_pos rfl⟩⟩
      · rw [m1]
        show (if i = n then ((cpk w x : Nat) : Int) else M 1001 i) = ((cpk w (if i = n then x else f i) : Nat) : Int)
        by_cases e : i = n
        · rw [if_pos e, if_pos e]
        · rw [if_neg e, if_neg e]
          exact h1 i (by omega)
      · show Rch w (if i = n then x else f i)
        by_cases e : i = n
        · rw [if_pos e]; exact hx
        · rw [if_neg e]; exact hR i (by omega)
      · have e' : (if i = n then x else f i) = if j = n then x else f j := e
        by_cases e1 : i = n
        · by_cases e2 : j = n
          · omega
          · rw [if_pos e1, if_neg e2] at e'
            exact absurd e'.symm ((hIx j (by omega)).mpr (g2 j (by omega)))
        · by_cases e2 : j = n
          · rw [if_neg e1, if_pos e2] at e'
            exact absurd e' ((hIx i (by omega)).mpr (g2 i (by omega)))
          · rw [if_neg e1, if_neg e2] at e'
            exact hinj i j (by omega) (by omega) e'
    · have hbig : Big w := by
        obtain rfl : n = 6000 := by omega
        exact big_of hR hinj hx (fun i hi => (hIx i hi).mpr (g2 i hi))
      refine ⟨mU M 1000 4 1, n, f, true, fun k => ?_, ⟨⟨h3, hn, rfl⟩, h1, hT, hR, hinj, fun _ => hbig⟩, ⟨fun p a _ _ _ _ _ => mU_ne a, fun j _ b => ?_⟩, ⟨Nat.le_refl n, fun _ _ => rfl, fun _ => rfl⟩, Or.inl rfl⟩
      · unfold srch_add
        rw [start, if_pos g1]
        unfold srch_add_J63
        rw [h3, bq_lt (by omega) (by decide), if_neg (by omega), sM_eq, bV_V]
      · rw [mU_ap, if_pos rfl, if_neg b]
  · refine ⟨M, n, f, o, fun k => ?_, ⟨⟨h3, hn, h4⟩, h1, hT, hR, hinj, hB⟩, FrC.rf, Ext.rf, Or.inr ⟨(M 1002 ((h + d) % 16384)).toNat - 1, ?_, ?_⟩⟩
    · unfold srch_add
      rw [start, if_neg g1, bV_V]
    · have b := hT.1 ((h + d) % 16384) (by omega)
      omega
    · have b := hT.1 ((h + d) % 16384) (by omega)
      have hidx : (M 1002 ((h + d) % 16384)).toNat - 1 < n := by omega
      exact Classical.byContradiction fun g => (hIx _ hidx).mp g g2
end AddC
