/-! ===== ALL THAT CAN BE COME TO: what is told of it ===== -/
theorem idx_of {n : Nat} {f b : Nat → Nat} {N : Nat} (h : ∀ i, i < N → ∃ j, j < n ∧ f j = b i) : ∃ g : Nat → Nat, ∀ i, i < N → g i < n ∧ f (g i) = b i := by
  induction N with
  | zero => exact ⟨fun _ => 0, fun i hi => absurd hi (Nat.not_lt_zero i)⟩
  | succ N ih =>
    obtain ⟨g, hg⟩ := ih (fun i hi => h i (by omega))
    obtain ⟨j, h1, h2⟩ := h N (by omega)
    refine ⟨fun i => if i = N then j else g i, fun i hi => ?_⟩
    show (if i = N then j else g i) < n ∧ f (if i = N then j else g i) = b i
    by_cases e : i = N
    · rw [if_pos e, e]; exact ⟨h1, h2⟩
    · rw [if_neg e]; exact hg i (by omega)
theorem pig_of {n N : Nat} {f b : Nat → Nat} (h : ∀ i, i < N → ∃ j, j < n ∧ f j = b i) (hb : ∀ i j, i < N → j < N → b i = b j → i = j) : N ≤ n := by
  obtain ⟨g, hg⟩ := idx_of h
  refine pig n N g (fun i hi => (hg i hi).1) (fun i j hi hj e => hb i j hi hj ?_)
  rw [← (hg i hi).2, ← (hg j hj).2, e]
theorem allr_big {w : Nat → Int} {n : Nat} {f : Nat → Nat} (h : AllR w n f) (hb : Big w) : False := by
  obtain ⟨b, b1, b2⟩ := hb
  have := pig_of (n := n) (N := 6001) (f := f) (b := b) (fun i hi => h.2.2.1 _ (b1 i hi)) b2
  have := h.1
  omega
theorem allr_n {w : Nat → Int} {n n' : Nat} {f f' : Nat → Nat} (h : AllR w n f) (h' : AllR w n' f') : n = n' := by
  have a := pig_of (n := n) (N := n') (f := f) (b := f') (fun i hi => h.2.2.1 _ (h'.2.1 i hi)) h'.2.2.2
  have b := pig_of (n := n') (N := n) (f := f') (b := f) (fun i hi => h'.2.2.1 _ (h.2.1 i hi)) h.2.2.2
  omega
def mnG (P : Nat → Bool) (h : Nat → Int) (f : Nat → Nat) (i : Nat) (v : Int) : Int := bif P (f i) then (if v < 0 ∨ h (f i) < v then h (f i) else v) else v
def mnS (P : Nat → Bool) (h : Nat → Int) (n : Nat) (f : Nat → Nat) (z : Int) : Prop := (z = -1 ∧ ∀ i, i < n → P (f i) = false) ∨ (0 ≤ z ∧ (∃ i, i < n ∧ P (f i) = true ∧ h (f i) = z) ∧ ∀ i, i < n → P (f i) = true → z ≤ h (f i))
theorem mn_step {P : Nat → Bool} {h : Nat → Int} {f : Nat → Nat} {i : Nat} {v : Int} (hh : 0 ≤ h (f i)) (H : mnS P h i f v) : mnS P h (i + 1) f (mnG P h f i v) := by
  unfold mnG
  cases hp : P (f i) with
  | false =>
    rw [cn_f]
    rcases H with ⟨h1, h2⟩ | ⟨h1, ⟨j, j1, j2, j3⟩, h2⟩
    · refine Or.inl ⟨h1, fun k hk => ?_⟩
      by_cases e : k = i
      · rw [e]; exact hp
      · exact h2 k (by omega)
    · refine Or.inr ⟨h1, ⟨j, by omega, j2, j3⟩, fun k hk hP => ?_⟩
      by_cases e : k = i
      · rw [e, hp] at hP; exact absurd hP (by decide)
      · exact h2 k (by omega) hP
  | true =>
    rw [cn_t]
    rcases H with ⟨h1, h2⟩ | ⟨h1, ⟨j, j1, j2, j3⟩, h2⟩
    · rw [if_pos (Or.inl (by omega))]
      refine Or.inr ⟨hh, ⟨i, by omega, hp, rfl⟩, fun k hk hP => ?_⟩
      by_cases e : k = i
      · rw [e]; exact Int.le_refl _
      · have := h2 k (by omega)
        rw [this] at hP; exact absurd hP (by decide)
    · by_cases hl : h (f i) < v
      · rw [if_pos (Or.inr hl)]
        refine Or.inr ⟨hh, ⟨i, by omega, hp, rfl⟩, fun k hk hP => ?_⟩
        by_cases e : k = i
        · rw [e]; exact Int.le_refl _
        · have := h2 k (by omega) hP
          omega
      · rw [if_neg (by omega)]
        refine Or.inr ⟨h1, ⟨j, by omega, j2, j3⟩, fun k hk hP => ?_⟩
        by_cases e : k = i
        · rw [e]; omega
        · exact h2 k (by omega) hP
theorem mn_spec {P : Nat → Bool} {h : Nat → Int} {f : Nat → Nat} {n : Nat} (hh : ∀ i, i < n → 0 ≤ h (f i)) : mnS P h n f (fo (mnG P h f) n 0 (-1)) := by
  have := fo_inv (g := mnG P h f) (P := fun i v => mnS P h i f v) n 0 (-1) (Or.inl ⟨rfl, fun i hi => absurd hi (Nat.not_lt_zero i)⟩) (fun j a h1 h2 h3 => mn_step (hh j (by omega)) h3)
  rw [Nat.zero_add] at this
  exact this
theorem mn_same {w : Nat → Int} {P : Nat → Bool} {h : Nat → Int} {n n' : Nat} {f f' : Nat → Nat} {z z' : Int} (a : AllR w n f) (a' : AllR w n' f') (H : mnS P h n f z) (H' : mnS P h n' f' z') : z = z' := by
  have to : ∀ i, i < n → ∃ j, j < n' ∧ f' j = f i := fun i hi => a'.2.2.1 _ (a.2.1 i hi)
  have fro : ∀ i, i < n' → ∃ j, j < n ∧ f j = f' i := fun i hi => a.2.2.1 _ (a'.2.1 i hi)
  rcases H with ⟨h1, h2⟩ | ⟨h1, ⟨j, j1, j2, j3⟩, h2⟩
  · rcases H' with ⟨g1, g2⟩ | ⟨g1, ⟨k, k1, k2, k3⟩, g2⟩
    · omega
    · obtain ⟨i, i1, i2⟩ := fro k k1
      have := h2 i i1
      rw [i2, k2] at this
      exact absurd this (by decide)
  · rcases H' with ⟨g1, g2⟩ | ⟨g1, ⟨k, k1, k2, k3⟩, g2⟩
    · obtain ⟨i, i1, i2⟩ := to j j1
      have := g2 i i1
      rw [i2, j2] at this
      exact absurd this (by decide)
    · obtain ⟨i, i1, i2⟩ := fro k k1
      obtain ⟨l, l1, l2⟩ := to j j1
      have e1 := h2 i i1 (by rw [i2]; exact k2)
      have e2 := g2 l l1 (by rw [l2]; exact j2)
      rw [i2, k3] at e1
      rw [l2, j3] at e2
      omega
/-- kept by a call that searches -/
theorem Inv_srch {k k' : Nat} {M M' : MM} (H : Inv k M) (C : ∀ p, p ≠ 0 → p ≠ 21 → p ≠ 22 → p ≠ 157 → p ≠ 181 → p ≠ 999 → (p < 1000 ∨ 1004 < p) → M' p = M p) (C0 : ∀ j, j ≠ 17 → M' 0 j = M 0 j) (S : SrR M') (hk : k ≤ k') (x0 : 0 ≤ M' 999 0) (x1 : M' 999 0 ≤ k') : Inv k' M' := by
  obtain ⟨i1, i2, i3, i4, i5, i6, i7, i8, i9, i10⟩ := H
  have hw : M' 166 = M 166 := C _ (by omega) (by omega) (by omega) (by omega) (by omega) (by omega) (by omega)
  have c165 : M' 165 = M 165 := C _ (by omega) (by omega) (by omega) (by omega) (by omega) (by omega) (by omega)
  have c1 : M' 1 = M 1 := C _ (by omega) (by omega) (by omega) (by omega) (by omega) (by omega) (by omega)
  have c3' : ∀ j, j < 14 → M' (3 + j) = M (3 + j) := fun j hj => C _ (by omega) (by omega) (by omega) (by omega) (by omega) (by omega) (by omega)
  refine ⟨TapeR_fr (C _ (by omega) (by omega) (by omega) (by omega) (by omega) (by omega) (by omega)) (C _ (by omega) (by omega) (by omega) (by omega) (by omega) (by omega) (by omega)) (by rw [c1]) (by rw [c1]) (by rw [c165]) (by rw [c165]) i1, by rw [hw]; exact WF_mono hk i2, by rw [hw]; exact LandR_fr c3' i3, by rw [hw]; exact JnyR_fr (fun j hj => C _ (by omega) (by omega) (by omega) (by omega) (by omega) (by omega) (by omega)) i4, by rw [hw]; exact LawR_fr (fun j hj => C _ (by omega) (by omega) (by omega) (by omega) (by omega) (by omega) (by omega)) i5, MemR_fr hk (by rw [c165]) (fun a h1 h2 => C _ (by omega) (by omega) (by omega) (by omega) (by omega) (by omega) (by omega)) (C _ (by omega) (by omega) (by omega) (by omega) (by omega) (by omega) (by omega)) c3' (by rw [hw]) i6, ImgR_fr hk (by rw [c165]) (C0 10 (by decide)) (C _ (by omega) (by omega) (by omega) (by omega) (by omega) (by omega) (by omega)) (fun a h1 h2 => C _ (by omega) (by omega) (by omega) (by omega) (by omega) (by omega) (by omega)) i7, S, ⟨x0, x1⟩, by rw [C0 18 (by decide)]; exact ⟨i10.1, by omega⟩⟩
theorem op_srch {D R : MM → OR} (H : ∀ k M, k ≤ 512 → Inv k M → EXC M → ∃ c z, I32 c ∧ (c = 0 → I32 z) ∧ (∃ M1, D M = some (rI c, M1) ∧ (c = 0 → M1 181 0 = z) ∧ Inv (k + 1) M1 ∧ M1 166 = M 166) ∧ ∀ N, Inv (k + 1) N → N 166 = M 166 → AnsR (R N) N c z) : OpOK D R := by
  intro k M hk hI
  have hx := hI.2.2.2.2.2.2.2.2.1
  obtain ⟨c, z, hc, hz, ⟨M1, a1, a2, a3, a4⟩, hR⟩ := H k M (by omega) hI ⟨hx.1, by omega⟩
  obtain ⟨N2, z', r1, r2, r3, r4, r5, r6⟩ := hR M1 a3 a4
  exact ⟨c, z', M1, N2, a1, r1, r2, hc, fun h => ⟨by rw [r5, a2 h, r3 h], by rw [r3 h]; exact hz h⟩, Inv_core a3 r4 (Nat.le_refl _) (by rw [r6]; exact a3.2.2.2.2.2.2.2.2.1.1) (by rw [r6]; exact a3.2.2.2.2.2.2.2.2.1.2)⟩
