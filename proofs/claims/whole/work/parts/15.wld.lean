/-! ===== the heap of the small machine as a world of the large one ===== -/
section Wld
variable (sz : Nat) (X : Nat → Value) (tid : Nat → ClassId)
def ce (c : AC) : va_E := match c with
  | .inl (k, n, f) => .inl (tid k, n, if k = 1 then .inr (.inl (fun j => Int64.ofInt (f j))) else .inl (fun j => Int32.ofInt (f j)))
  | .inr (.inl (n, f)) => .inl (tid 4, n, .inr (.inr (.inr (.inr (fun j => (f j).map (fun a => sz + a))))))
  | .inr (.inr (c, fs)) => .inr (c, fs.map (cv sz X))
def wsH (h : AH) : va_W := (List.range h.1).map fun a => (sz + a, ce sz X tid (gt h a))
def tyA : List (ClassId × FieldType) := [(tid 0, .int), (tid 1, .long), (tid 2, .byte), (tid 3, .boolean), (tid 4, .object "GlassHill$Journey")]
/-- what the law finds, as the small machine sees it -/
def XOK (XC : Nat → AC) (s : State) : Prop :=
  (∀ a, E0 ≤ a → ∀ c fs, XC a = .inr (.inr (c, fs)) → c ≠ 60 → c = 50 ∧ ∃ (q : Nat) (v w : AV), fs = [v, w] ∧ X (a - E0) = .ref q ∧ va_O "java/lang/String" q (fun q => sz ≤ q) s s.heap ∧ va_OF "java/lang/String" "value" "[B" (cv sz X v) q (fun q => sz ≤ q) s s.heap ∧ va_OF "java/lang/String" "coder" "B" (cv sz X w) q (fun q => sz ≤ q) s s.heap) ∧
  (∀ a, E0 ≤ a → ∀ k n f, XC a = .inl (k, n, f) → ∃ q : Nat, X (a - E0) = .ref q ∧ ((k = 0 ∧ va_X q n (fun j => Int32.ofInt (f j)) s s.heap ∧ q < sz) ∨ (k = 2 ∧ va_T .byte q n (fun j => .int (Int32.ofInt (f j))) (fun q => sz ≤ q) s s.heap))) ∧
  (∀ a, E0 ≤ a → ∀ n f, XC a ≠ .inr (.inl (n, f))) ∧
  (∀ i own k t, stL[i]? = some (own, k, t) → ∃ q, X (2 + 2 * i) = .ref q ∧ vk_R own k t q s) ∧
  va_Z "java/lang/String" "COMPACT_STRINGS" "Z" (.int 1) (fun q => sz ≤ q) s s.heap ∧
  va_Z "jdk/internal/util/Preconditions" "SIOOBE_FORMATTER" "Ljava/util/function/BiFunction;" (X 1) (fun q => sz ≤ q) s s.heap ∧
  vx_Zq Bundle.tN "UNASSIGNED_STACK" Bundle.steD (fun q => sz ≤ q) s s.heap ∧ vx_Zq Bundle.tN "SUPPRESSED_SENTINEL" Bundle.listD (fun q => sz ≤ q) s s.heap
/-- what holds of a state from the law's entry on: the words, the classes, what it finds -/
def EN (D : va_G) (XC : Nat → AC) (s : State) : Prop :=
  (∀ w ∈ lw_tbl, goodWord w = true → ∀ args : Array Value, w.before args s = true) ∧ va_K D clA (tyA tid) s ∧ (∀ a, X a = .null ∨ ∃ q, X a = .ref q) ∧ sz ≤ s.heap.size ∧ XOK sz X XC s ∧
  (∀ c i y, Cond.methodLinkNest c i y "GlassHill" ∈ lw_tbl → va_Nw (.methodLinkNest c i y "GlassHill") s) ∧ va_AO "GlassHill$Journey" s ∧
  (∀ c, 13 ≤ c ∧ c < 18 → va_Nw (.castable (xN c) (xN c)) s) ∧ (∀ c d, 13 ≤ c ∧ c < 18 → 13 ≤ d ∧ d < 18 → c ≠ d → va_Nc (xN c) (xN d) s) ∧ (∀ y, Cond.declares y ∈ lw_tbl → va_Nw (.declares y) s)
/-- the heap of a frame: as the small one has it, grown by so many cells and slots since the frame began -/
def IN (D : va_G) (XC : Nat → AC) (s : State) (hB h : AH) (H : Heap) (locs : List Loc) (cells slots : Nat) : Prop :=
  va_P D clA (wsH sz X tid h) H ∧ H.size = sz + h.1 ∧ s.heap.size = sz + hB.1 ∧ cells + hB.1 = h.1 ∧ slots + hB.2.1 = h.2.1 ∧ va_S (fun q => sz ≤ q) s.heap H locs ∧ ∀ a, E0 ≤ a → gt h a = XC a
end Wld
section WldRows
variable {sz : Nat} {X : Nat → Value} {tid : Nat → ClassId}
theorem wsH_get {h : AH} {a : Nat} (ha : a < h.1) : (wsH sz X tid h)[a]? = some (sz + a, ce sz X tid (gt h a)) := by
  unfold wsH
  rw [List.getElem?_map, List.getElem?_range ha]
  rfl
theorem wsH_len (h : AH) : (wsH sz X tid h).length = h.1 := by simp [wsH]
theorem wsH_set {h : AH} {a : Nat} (c : AC) : (wsH sz X tid h).set a (sz + a, ce sz X tid c) = wsH sz X tid (sv h a c) := by
  apply List.ext_getElem?
  intro j
  by_cases hj : j < h.1
  · rw [wsH_get (h := sv h a c) hj]
    by_cases e : j = a
    · subst e
      rw [List.getElem?_set_self (by rw [wsH_len]; exact hj)]
      simp [gt, sv]
    · rw [List.getElem?_set_ne (Ne.symm e), wsH_get hj]
      simp [gt, sv, e]
  · rw [List.getElem?_eq_none (by rw [List.length_set, wsH_len]; omega), List.getElem?_eq_none (by rw [wsH_len]; show h.1 ≤ j; omega)]
theorem wsH_al {h : AH} {n : Nat} (c : AC) : wsH sz X tid h ++ [(sz + h.1, ce sz X tid c)] = wsH sz X tid (al h n c) := by
  apply List.ext_getElem?
  intro j
  by_cases hj : j < h.1
  · rw [List.getElem?_append_left (by rw [wsH_len]; exact hj), wsH_get hj, wsH_get (h := al h n c) (show j < h.1 + 1 by omega)]
    have e : ¬ j = h.1 := by omega
    simp [gt, al, e]
  · by_cases e : j = h.1
    · subst e
      rw [List.getElem?_append_right (by rw [wsH_len]; omega), wsH_len, Nat.sub_self, wsH_get (h := al h n c) (show h.1 < h.1 + 1 by omega)]
      simp [gt, al]
    · rw [List.getElem?_eq_none (by rw [List.length_append, wsH_len]; show h.1 + 1 ≤ j; omega), List.getElem?_eq_none (by rw [wsH_len]; show h.1 + 1 ≤ j; omega)]
theorem wsH_inv {h : AH} {k : Nat} {q : Nat × va_E} (e : (wsH sz X tid h)[k]? = some q) : k < h.1 ∧ q = (sz + k, ce sz X tid (gt h k)) := by
  have hk : k < h.1 := by have := (List.getElem?_eq_some_iff.mp e).1; rw [wsH_len] at this; exact this
  rw [wsH_get hk] at e
  exact ⟨hk, (Option.some.inj e).symm⟩
theorem wsH_D (h : AH) : va_D (fun q => sz ≤ q) (wsH sz X tid h) := by
  refine ⟨fun i j p q hi hj e => ?_, fun k q hk => ?_⟩
  · obtain ⟨_, rfl⟩ := wsH_inv hi
    obtain ⟨_, rfl⟩ := wsH_inv hj
    dsimp only at e
    omega
  · obtain ⟨_, rfl⟩ := wsH_inv hk
    exact Nat.le_add_right _ _
end WldRows
section Frames
variable {p : Program} {l : Launch} {e : Env} {R : Room} {s : State} {mid : MethodId} {args : Array Value} {below : List Frame} {meth : Method} {c : Code} {H : Heap} {locs : List Loc} {cells slots : Nat} {Q : State → Prop}
theorem W_sz {g : JFrame} (k : H.size ≤ s.heap.size + cells → W p l e R s mid args below meth c H locs cells slots Q g) : W p l e R s mid args below meth c H locs cells slots Q g := by
  intro T hT Y
  refine k ?_ T hT Y
  have h := Y.same.2.2.1
  rw [← hT]
  exact h
variable {sz : Nat} {X : Nat → Value} {tid : Nat → ClassId} {D : va_G} {XC : Nat → AC} {hB h : AH}
theorem IN.mono {H1 : Heap} {locs1 : List Loc} {a : Nat} {ce1 : AC} (hI : IN sz X tid D XC s hB h H locs cells slots) (ha : a < h.1) (hE : h.1 ≤ E0) (hP : va_P D clA (wsH sz X tid (sv h a ce1)) H1) (hS : va_S (fun q => sz ≤ q) H H1 locs1) (hz : H1.size ≤ s.heap.size + cells) : IN sz X tid D XC s hB (sv h a ce1) H1 locs1 cells slots := by
  obtain ⟨i1, i2, i3, i4, i5, i6, i7⟩ := hI
  obtain ⟨j1, j2, j3⟩ := hS
  refine ⟨hP, ?_, i3, i4, i5, ⟨Nat.le_trans i6.1 j1, fun q h1 h2 => (j2 q (Nat.lt_of_lt_of_le h1 i6.1) h2).trans (i6.2.1 q h1 h2), j3⟩, fun b hb => ?_⟩
  · show H1.size = sz + h.1
    omega
  · have e : ¬ b = a := by omega
    show (if b = a then ce1 else h.2.2 b) = XC b
    rw [if_neg e]
    exact i7 b hb
theorem IN.grow {H1 : Heap} {q n : Nat} {ce1 : AC} (hI : IN sz X tid D XC s hB h H locs cells slots) (hE : h.1 + 1 ≤ E0) (hP : va_P D clA (wsH sz X tid h ++ [(q, ce sz X tid ce1)]) H1) (hD : va_D (fun q => sz ≤ q) (wsH sz X tid h ++ [(q, ce sz X tid ce1)])) (hS : va_S (fun q => sz ≤ q) H H1 locs) (hz : H1.size ≤ s.heap.size + (cells + 1)) :
    q = sz + h.1 ∧ IN sz X tid D XC s hB (al h n ce1) H1 locs (cells + 1) (slots + n) := by
  obtain ⟨i1, i2, i3, i4, i5, i6, i7⟩ := hI
  obtain ⟨j1, j2, j3⟩ := hS
  have hl : (wsH sz X tid h ++ [(q, ce sz X tid ce1)])[h.1]? = some (q, ce sz X tid ce1) := by
    rw [List.getElem?_append_right (by rw [wsH_len]; omega), wsH_len, Nat.sub_self]
    rfl
  have hq1 : sz ≤ q := hD.2 _ _ hl
  have hq2 : q < H1.size := (hP _ _ hl).lt
  have hq : q = sz + h.1 := by
    by_cases hlt : q < sz + h.1
    · exfalso
      have hk : q - sz < h.1 := by omega
      have hg : (wsH sz X tid h ++ [(q, ce sz X tid ce1)])[q - sz]? = some (sz + (q - sz), ce sz X tid (gt h (q - sz))) := by
        rw [List.getElem?_append_left (by rw [wsH_len]; exact hk), wsH_get hk]
      have := hD.1 _ _ _ _ hg hl (by dsimp only; omega)
      omega
    · omega
  refine ⟨hq, ?_, ?_, i3, ?_, ?_, ⟨Nat.le_trans i6.1 j1, fun q h1 h2 => (j2 q (Nat.lt_of_lt_of_le h1 i6.1) h2).trans (i6.2.1 q h1 h2), j3⟩, fun b hb => ?_⟩
  · rw [hq, wsH_al (n := n)] at hP
    exact hP
  · show H1.size = sz + (h.1 + 1)
    omega
  · show cells + 1 + hB.1 = h.1 + 1
    omega
  · show slots + n + hB.2.1 = h.2.1 + n
    omega
  · have e : ¬ b = h.1 := by omega
    show (if b = h.1 then ce1 else h.2.2 b) = XC b
    rw [if_neg e]
    exact i7 b hb
theorem IN.S {s : State} (hI : IN sz X tid D XC s hB h H locs cells slots) : va_S (fun q => sz ≤ q) H H locs := ⟨Nat.le_refl _, fun _ _ _ => rfl, hI.2.2.2.2.2.1.2.2⟩
end Frames
