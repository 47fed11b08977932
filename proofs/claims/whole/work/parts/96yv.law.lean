/-! ===== THE LAW: what is read, as codes and steps ===== -/
theorem tyR_cg' {f f' : Nat → Int} : ∀ n i st, (∀ j, i ≤ j → j < i + n → f' j = f j) → tyR f' n i st = tyR f n i st
  | 0, i, st, _ => rfl
  | n + 1, i, st, h => by
    show (ty1 (f' i) st).bind (tyR f' n (i + 1)) = (ty1 (f i) st).bind (tyR f n (i + 1))
    rw [h i (Nat.le_refl i) (by omega)]
    cases ty1 (f i) st with
    | none => rfl
    | some r => exact tyR_cg' n (i + 1) r (fun j h1 h2 => h j (by omega) (by omega))
theorem tyR_snoc {f : Nat → Int} : ∀ n i st, tyR f (n + 1) i st = (tyR f n i st).bind (fun r => ty1 (f (i + n)) r)
  | 0, i, st => by
    show (ty1 (f i) st).bind (tyR f 0 (i + 1)) = ty1 (f (i + 0)) st
    rw [Nat.add_zero]
    cases ty1 (f i) st <;> rfl
  | n + 1, i, st => by
    show (ty1 (f i) st).bind (tyR f (n + 1) (i + 1)) = ((ty1 (f i) st).bind (tyR f n (i + 1))).bind _
    cases h : ty1 (f i) st with
    | none => rfl
    | some r =>
      show tyR f (n + 1) (i + 1) r = (tyR f n (i + 1) r).bind _
      rw [tyR_snoc n (i + 1) r, show i + 1 + n = i + (n + 1) by omega]
/-- the frame of the reference's draft: what stands before step s stays -/
def FrL (s : Nat) (N N' : MM) : Prop := (∀ a, a ≠ 165 → a ≠ 166 → N' a = N a) ∧ (∀ j, j < 1164 + 2 * s → N' 166 j = N 166 j) ∧ ∀ j, j ≠ 9 → j ≠ 11 → j ≠ 12 → j ≠ 15 → N' 165 j = N 165 j
theorem FrL.rf {s : Nat} {N : MM} : FrL s N N := ⟨fun _ _ _ => rfl, fun _ _ => rfl, fun _ _ _ _ _ => rfl⟩
theorem FrL.tr {s s' : Nat} {N N1 N2 : MM} (hs : s ≤ s') (h : FrL s N N1) (g : FrL s' N1 N2) : FrL s N N2 := ⟨fun a h1 h2 => (g.1 a h1 h2).trans (h.1 a h1 h2), fun j hj => (g.2.1 j (by omega)).trans (h.2.1 j hj), fun j a b c d => (g.2.2 j a b c d).trans (h.2.2 j a b c d)⟩
theorem FrL.t {s : Nat} {T : Nat → Int} {n : Nat} {N N' : MM} (h : FrL s N N') (H : TN T n N) : TN T n N' := by
  unfold TN at *
  rw [h.2.2 10 (by decide) (by decide) (by decide) (by decide), h.1 170 (by decide) (by decide)]
  exact H
theorem FrL.d {s : Nat} {N : MM} {x : Int} : FrL s N (mU N 165 12 x) := ⟨fun a h1 h2 => mU_ne h1, fun j hj => by rw [mU_ne (by decide)], fun j a b c d => by rw [mU_eq, up_ne c]⟩
/-- codes and steps so far -/
def LwS (C N : MM) (a0 s : Nat) (st : List Bool) (v : Nat) : Prop := C 43 4 = (s : Int) ∧ N 165 15 = (s : Int) ∧ N 165 12 = (v : Int) ∧ a0 ≤ s ∧ (∀ i, i < s → cdR (C 46 i) (N 166 (1164 + 2 * i)) (N 166 (1165 + 2 * i))) ∧ tyR (fun i => N 166 (1164 + 2 * i)) (s - a0) a0 [] = some st
theorem LwS_v {C N : MM} {a0 s v : Nat} {st : List Bool} {v' : Nat} {x : Int} (h : LwS C N a0 s st v) (hx : x = (v' : Int)) : LwS C (mU N 165 12 x) a0 s st v' := by
  obtain ⟨h1, h2, h3, h4, h5, h6⟩ := h
  refine ⟨h1, by rw [mU_eq, up_ne (by decide)]; exact h2, by rw [mU_eq, up_eq]; exact hx, h4, fun i hi => ?_, ?_⟩
  · rw [mU_ne (by decide)]; exact h5 i hi
  · rw [mU_ne (by decide)]; exact h6
/-- one step more -/
def aqC (C : MM) (s : Nat) (c : Int) : MM := mU (mU C 46 s c) 43 4 ((s : Int) + 1)
def emN (N : MM) (s : Nat) (x y : Int) : MM := mU (mU (mU N 166 (1164 + 2 * s) x) 166 (1165 + 2 * s) y) 165 15 ((s : Int) + 1)
theorem app_b {C : MM} {p l s : Nat} {b c : Int} {k : MM → OR} (h : C 43 4 = (s : Int)) (hs : s < 400) : bV (law_append 43 c (tpT C p l b)) k = k (tpT (aqC C s c) p l b) := by
  unfold law_append
  rw [cT_ne (by decide), h, bq_ge (by omega) (by decide), if_neg (by omega), bq_in (by omega) (by omega), sM_eq, sM_eq, Int.toNat_natCast, cT_u (by decide), cT_ne (by decide), mU_ne (by decide), h, cT_u (by decide), bV_V]
  rfl
theorem emit_b {N : MM} {p e s : Nat} {x y : Int} {k : MM → OR} (h : N 165 15 = (s : Int)) (hs : s < 400) : bV (mo_emits x y (nT N p e)) k = k (nT (emN N s x y) p e) := by
  unfold mo_emits
  have e1 : (nT N p e) 165 15 = (s : Int) := (nT_j (by decide) (by decide)).trans h
  have e2 : (mU (nT N p e) 166 ((1164 + 2 * (s : Int))).toNat x) 165 15 = (s : Int) := by rw [mU_ne (by decide)]; exact e1
  have e3 : (mU (mU (nT N p e) 166 ((1164 + 2 * (s : Int))).toNat x) 166 ((1164 + 2 * (s : Int)) + 1).toNat y) 165 15 = (s : Int) := by rw [mU_ne (by decide)]; exact e2
  rw [e1, bq_in (by omega) (by omega), sM_eq, e2, bq_in (by omega) (by omega), sM_eq, e3, sM_eq, bV_V, show (1164 + 2 * (s : Int)).toNat = 1164 + 2 * s by omega, show ((1164 + 2 * (s : Int)) + 1).toNat = 1165 + 2 * s by omega, nT_u (by decide), nT_u (by decide), nT_v (by decide) (by decide)]
  rfl
theorem FrL_em {N : MM} {s s0 : Nat} {x y : Int} (h : s0 ≤ s) : FrL s0 N (emN N s x y) := by
  unfold emN
  refine ⟨fun a h1 h2 => by rw [mU_ne h1, mU_ne h2, mU_ne h2], fun j hj => ?_, fun j a b c d => ?_⟩
  · rw [mU_ne (by decide), mU_eq, up_ne (by omega), mU_eq, up_ne (by omega)]
  · rw [mU_eq, up_ne d, mU_ne (by decide), mU_ne (by decide)]
theorem FrT_ap {C : MM} {s : Nat} {c : Int} : FrT C (aqC C s c) := FrT.tr (FrT.u (C := C) (a := 46) (k := s) (x := c) (by omega)) (FrT.u (a := 43) (k := 4) (x := (s : Int) + 1) (by omega))
theorem LwS_em {C N : MM} {a0 s v : Nat} {st st' : List Bool} {c x y : Int} (h : LwS C N a0 s st v) (hc : cdR c x y) (ht : ty1 x st = some st') : LwS (aqC C s c) (emN N s x y) a0 (s + 1) st' v := by
  obtain ⟨h1, h2, h3, h4, h5, h6⟩ := h
  have w : ∀ j, (emN N s x y) 166 j = if j = 1165 + 2 * s then y else if j = 1164 + 2 * s then x else N 166 j := fun j => by
    unfold emN
    rw [mU_ne (by decide), mU_ap, if_pos rfl, mU_ap, if_pos rfl]
  refine ⟨by unfold aqC; rw [mU_eq, up_eq]; omega, by unfold emN; rw [mU_eq, up_eq]; omega, by unfold emN; rw [mU_eq, up_ne (by decide), mU_ne (by decide), mU_ne (by decide)]; exact h3, by omega, fun i hi => ?_, ?_⟩
  · have e : (aqC C s c) 46 i = if i = s then c else C 46 i := by
      unfold aqC
      rw [mU_ne (by decide), mU_ap, if_pos rfl]
    rw [e, w, w]
    by_cases g : i = s
    · subst g
      rw [if_pos rfl, if_neg (by omega), if_pos rfl, if_pos rfl]
      exact hc
    · rw [if_neg g, if_neg (by omega), if_neg (by omega), if_neg (by omega), if_neg (by omega)]
      exact h5 i (by omega)
  · rw [show s + 1 - a0 = (s - a0) + 1 by omega, tyR_snoc, tyR_cg' (f := fun i => N 166 (1164 + 2 * i)) (s - a0) a0 [] (fun j g1 g2 => by show (emN N s x y) 166 (1164 + 2 * j) = N 166 (1164 + 2 * j); rw [w, if_neg (by omega), if_neg (by omega)]), h6]
    show ty1 ((emN N s x y) 166 (1164 + 2 * (a0 + (s - a0)))) st = some st'
    rw [show a0 + (s - a0) = s by omega, w, if_neg (by omega), if_pos rfl]
    exact ht
