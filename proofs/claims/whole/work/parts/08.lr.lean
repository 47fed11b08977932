/-! ===== THE SMALL MACHINE AND THE LARGE ONE: values, locals ===== -/
section Conc
variable (sz : Nat) (X : Nat → Value)
def cv (v : AV) : Value := match v with
  | .inl z => .int (Int32.ofInt z)
  | .inr (.inl z) => .long (Int64.ofInt z)
  | .inr (.inr (.inl none)) => .null
  | .inr (.inr (.inl (some a))) => if a < E0 then .ref (sz + a) else X (a - E0)
  | .inr (.inr (.inr _)) => .null
def prs (ls : List AV) : List (Nat × Value) := ls.zipIdx.filterMap fun q => if q.1 = vU then none else some (q.2, cv sz X q.1)
def LR (lsr : Array Slot) (ls : List AV) : Prop := lsr.size = ls.length ∧ lv_wf lsr ∧ ∀ (k : Nat) (v : AV), ls[k]? = some v → v ≠ vU → lsr[k]? = some (.val (cv sz X v))
end Conc
section LRrows
variable {sz : Nat} {X : Nat → Value} {lsr : Array Slot} {ls : List AV}
theorem mem_prs {k : Nat} {w : Value} : (k, w) ∈ prs sz X ls ↔ ∃ v, ls[k]? = some v ∧ v ≠ vU ∧ w = cv sz X v := by
  unfold prs
  rw [List.mem_filterMap]
  constructor
  · rintro ⟨⟨v, j⟩, h1, h2⟩
    dsimp only at h2
    split at h2
    · cases h2
    · rename_i hv
      cases h2
      exact ⟨v, List.mk_mem_zipIdx_iff_getElem?.mp h1, hv, rfl⟩
  · rintro ⟨v, h1, h2, rfl⟩
    exact ⟨(v, k), List.mk_mem_zipIdx_iff_getElem?.mpr h1, by simp [h2]⟩
theorem LR.has (h : LR sz X lsr ls) : lv_has lsr ls.length (prs sz X ls) := by
  refine ⟨h.1, h.2.1, ?_⟩
  rintro ⟨k, w⟩ hq
  obtain ⟨v, h1, h2, rfl⟩ := mem_prs.mp hq
  exact h.2.2 k v h1 h2
theorem clr_len (k : Nat) (ls : List AV) : (clr k ls).length = ls.length := by
  unfold clr
  split
  · rfl
  · split
    · simp
    · rfl
theorem clr_get {k j : Nat} {v : AV} (h : (clr k ls)[j]? = some v) (hv : v ≠ vU) : ls[j]? = some v ∧ (j + 1 = k → ct v = 1) := by
  unfold clr at h
  split at h
  · exact ⟨h, fun e => by omega⟩
  · rename_i i
    split at h
    · rename_i z hz
      by_cases hj : j = i
      · subst hj
        have hl : j < ls.length := (List.getElem?_eq_some_iff.mp hz).1
        rw [List.getElem?_set_self hl] at h
        exact absurd (Option.some.inj h).symm hv
      · rw [List.getElem?_set_ne (Ne.symm hj)] at h
        exact ⟨h, fun e => by omega⟩
    · rename_i hz
      refine ⟨h, fun e => ?_⟩
      have e : j = i := by omega
      subst e
      unfold ct
      split
      · rename_i z
        exact absurd h (hz z)
      · rfl
theorem cv_cat {v : AV} (hX : ∀ a, (X a).category = 1) : (cv sz X v).category = ct v := by
  unfold cv ct
  split <;> first | rfl | (split <;> first | rfl | exact hX _)
theorem cv_cat2 {v : AV} (hX : ∀ a, (X a).category = 1) (h : ct v = 1) : ((cv sz X v).category == 2) = false := by
  rw [cv_cat hX, h]
  rfl
theorem LR_st1 {k : Nat} {v : AV} {ls' : Array Slot} (hX : ∀ a, (X a).category = 1) (hk : k < ls.length) (h : lv_has ls' ls.length ((k, cv sz X v) :: (prs sz X ls).filter (fun q => !(q.1 == k) && !(q.1 + 1 == k && q.2.category == 2)))) : LR sz X ls' (st1 k v ls) := by
  obtain ⟨h1, h2, h3⟩ := h
  refine ⟨by rw [h1]; simp [st1, clr_len], h2, fun j w hj hw => ?_⟩
  unfold st1 at hj
  by_cases e : j = k
  · subst e
    rw [List.getElem?_set_self (by rw [clr_len]; exact hk)] at hj
    cases hj
    exact h3 _ List.mem_cons_self
  · rw [List.getElem?_set_ne (Ne.symm e)] at hj
    obtain ⟨g1, g2⟩ := clr_get hj hw
    refine h3 (j, cv sz X w) (List.mem_cons_of_mem _ (List.mem_filter.mpr ⟨mem_prs.mpr ⟨w, g1, hw, rfl⟩, ?_⟩))
    simp only [Bool.and_eq_true, Bool.not_eq_true', beq_eq_false_iff_ne, ne_eq, e, not_false_eq_true, true_and]
    by_cases e2 : j + 1 = k
    · rw [cv_cat2 hX (g2 e2), Bool.and_false]
    · rw [beq_eq_false_iff_ne.mpr e2, Bool.false_and]
theorem LR_st2 {k : Nat} {v : AV} {ls' : Array Slot} (hX : ∀ a, (X a).category = 1) (hk : k + 1 < ls.length) (h : lv_has ls' ls.length ((k, cv sz X v) :: (prs sz X ls).filter (fun q => !(q.1 == k) && (!(q.1 == k + 1) && !(q.1 + 1 == k && q.2.category == 2))))) : LR sz X ls' (st2 k v ls) := by
  obtain ⟨h1, h2, h3⟩ := h
  refine ⟨by rw [h1]; simp [st2, clr_len], h2, fun j w hj hw => ?_⟩
  unfold st2 at hj
  by_cases e0 : j = k + 1
  · subst e0
    rw [List.getElem?_set_self (by simp [clr_len]; exact hk)] at hj
    exact absurd (Option.some.inj hj).symm hw
  rw [List.getElem?_set_ne (Ne.symm e0)] at hj
  by_cases e : j = k
  · subst e
    rw [List.getElem?_set_self (by rw [clr_len]; omega)] at hj
    cases hj
    exact h3 _ List.mem_cons_self
  · rw [List.getElem?_set_ne (Ne.symm e)] at hj
    obtain ⟨g1, g2⟩ := clr_get hj hw
    refine h3 (j, cv sz X w) (List.mem_cons_of_mem _ (List.mem_filter.mpr ⟨mem_prs.mpr ⟨w, g1, hw, rfl⟩, ?_⟩))
    simp only [Bool.and_eq_true, Bool.not_eq_true', beq_eq_false_iff_ne, ne_eq, e, e0, not_false_eq_true, true_and]
    by_cases e2 : j + 1 = k
    · rw [cv_cat2 hX (g2 e2), Bool.and_false]
    · rw [beq_eq_false_iff_ne.mpr e2, Bool.false_and]
/-- a method's entry -/
theorem lay_len (vs : List AV) (hX : ∀ a, (X a).category = 1) : (lg_sl (vs.map (cv sz X))).length = (lay vs).length := by
  induction vs with
  | nil => rfl
  | cons v r ih =>
    simp only [lg_sl, lay, List.map_cons, List.flatMap_cons, List.length_append] at ih ⊢
    rw [ih, cv_cat hX]
    split <;> rfl
theorem lay_get (vs : List AV) (hX : ∀ a, (X a).category = 1) : ∀ (o : Nat) (k : Nat) (v : AV), (lay vs)[k]? = some v → v ≠ vU → (o + k, cv sz X v) ∈ lv_args o (vs.map (cv sz X)) := by
  induction vs with
  | nil => intro o k v h; simp [lay] at h
  | cons w r ih =>
    intro o k v h hv
    simp only [lay, List.flatMap_cons] at h ih
    simp only [List.map_cons, lv_args]
    cases k with
    | zero =>
      have : v = w := by
        split at h <;> (simp at h; exact h.symm)
      subst this
      exact List.mem_cons_self
    | succ k =>
      refine List.mem_cons_of_mem _ ?_
      split at h
      · rename_i hc
        cases k with
        | zero => simp at h; exact absurd h.symm hv
        | succ k =>
          have h' := ih (o + (cv sz X w).category) k v (by simpa using h) hv
          rw [cv_cat hX, hc] at h' ⊢
          have e : o + (k + 1 + 1) = o + 2 + k := by omega
          rw [e]
          exact h'
      · rename_i hc
        have hc1 : ct w = 1 := by
          unfold ct at hc ⊢
          split <;> simp_all
        have h' := ih (o + (cv sz X w).category) k v (by simpa using h) hv
        rw [cv_cat hX, hc1] at h' ⊢
        have e : o + (k + 1) = o + 1 + k := by omega
        rw [e]
        exact h'
theorem LR_ent {y : Nat} {vs : List AV} (hX : ∀ a, (X a).category = 1) (hn : (lay vs).length ≤ mL y) : LR sz X ((lg_sl (vs.map (cv sz X)) ++ List.replicate (mL y - (lg_sl (vs.map (cv sz X))).length) Slot.unset).toArray) (ent y vs) := by
  obtain ⟨h1, h2, h3⟩ := lv_entry (vs.map (cv sz X)) (n := mL y) (by rw [lay_len vs hX]; exact hn)
  refine ⟨by rw [h1]; simp [ent]; omega, h2, fun k v hk hv => ?_⟩
  unfold ent at hk
  by_cases hl : k < (lay vs).length
  · rw [List.getElem?_append_left hl] at hk
    have h := lay_get (sz := sz) vs hX 0 k v hk hv
    rw [Nat.zero_add] at h
    exact h3 _ h
  · rw [List.getElem?_append_right (by omega)] at hk
    have := List.mem_of_getElem? hk
    rw [List.mem_replicate] at this
    exact absurd this.2 hv
end LRrows
