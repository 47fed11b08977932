/-! ===== from state to state ===== -/
theorem EN.moved {sz : Nat} {X : Nat → Value} {tid : Nat → ClassId} {D : va_G} {XC : Nat → AC} {s U : State} (hN : EN sz X tid D XC s) (hW : s.WarmedH U.vm) (hh : ∀ q : Nat, q < sz → U.heap[q]? = s.heap[q]?) (hz : sz ≤ U.heap.size) : EN sz X tid D XC U := by
  obtain ⟨n1, n2, n3, n4, ⟨x1, x2, x3, x4, x5, x6, x7, x8⟩, n6, n7, n8, n9, n10⟩ := hN
  have hv := hW.alike
  have hk : ∀ a : Nat, a < s.heap.size → ¬ sz ≤ a → U.heap[a]? = s.heap[a]? := fun a _ h => hh a (Nat.not_le.mp h)
  refine ⟨fun w hw hg args => word_at hW (good_of_word hg) (n1 w hw hg #[]), n2.moved hv, n3, hz, ⟨fun a ha c fs hc h60 => ?_, fun a ha k n f hc => ?_, x3, fun i own k t ht => ?_, (x5.moved hv).kept hk, (x6.moved hv).kept hk, (x7.moved hv).kept hk, (x8.moved hv).kept hk⟩, fun c i y h => (n6 c i y h).warmM hW, n7.moved hv, fun c hc => (n8 c hc).warmC hW, fun c d hc hd hcd => (n9 c d hc hd hcd).moved hv, fun y h => (n10 y h).warmD hW⟩
  · obtain ⟨r1, q, v, w, r2, r3, r4, r5, r6⟩ := x1 a ha c fs hc h60
    exact ⟨r1, q, v, w, r2, r3, (r4.moved hv).kept hk, (r5.moved hv).kept hk, (r6.moved hv).kept hk⟩
  · obtain ⟨q, r1, r2⟩ := x2 a ha k n f hc
    refine ⟨q, r1, ?_⟩
    rcases r2 with ⟨r2, r3, r4⟩ | ⟨r2, r3⟩
    · exact Or.inl ⟨r2, (r3.moved hv).kept (hh q r4), r4⟩
    · exact Or.inr ⟨r2, (r3.moved hv).kept hk⟩
  · obtain ⟨q, r1, r2⟩ := x4 i own k t ht
    exact ⟨q, r1, r2.warm hW⟩
/-- a run makes nothing less -/
theorem thr_up {rc : RC} (hr : ∀ d m pc ls st h q, rc d m pc ls st h = some q → h.1 ≤ q.2.1 ∧ h.2.1 ≤ q.2.2.1) {d m pc : Nat} {ls : List AV} {h : AH} {ci : Nat} {q : AR × AH} (e : thr rc d m pc ls h ci = some q) : h.1 ≤ q.2.1 ∧ h.2.1 ≤ q.2.2.1 := by
  unfold thr at e
  split at e
  · split at e
    · split at e
      · split at e
        · exact hr _ _ _ _ _ _ _ e
        · cases e
      · split at e
        · exact hr _ _ _ _ _ _ _ e
        · cases e
      · cases e
    · cases e
      exact ⟨Nat.le_refl _, Nat.le_refl _⟩
    · cases e
  · cases e
theorem cal_up {rc : RC} (hr : ∀ d m pc ls st h q, rc d m pc ls st h = some q → h.1 ≤ q.2.1 ∧ h.2.1 ≤ q.2.2.1) {kd d m pc x : Nat} {ls st : List AV} {h : AH} {q : AR × AH} (e : cal rc kd d m pc x ls st h = some q) : h.1 ≤ q.2.1 ∧ h.2.1 ≤ q.2.2.1 := by
  unfold cal at e
  split at e
  · split at e
    · cases d with
      | zero => cases e
      | succ d =>
        dsimp only at e
        split at e
        · rename_i r h' hr1
          have a := hr _ _ _ _ _ _ _ hr1
          have b := hr _ _ _ _ _ _ _ e
          exact ⟨Nat.le_trans a.1 b.1, Nat.le_trans a.2 b.2⟩
        · rename_i r h' hr1
          have a := hr _ _ _ _ _ _ _ hr1
          have b := thr_up hr e
          exact ⟨Nat.le_trans a.1 b.1, Nat.le_trans a.2 b.2⟩
        · cases e
    · cases e
  · cases e
theorem ctl_up {rc : RC} (hr : ∀ d m pc ls st h q, rc d m pc ls st h = some q → h.1 ≤ q.2.1 ∧ h.2.1 ≤ q.2.2.1) {d m pc : Nat} {i : Instr} {ls st : List AV} {h : AH} {q : AR × AH} (e : ctl rc d m pc i ls st h = some q) : h.1 ≤ q.2.1 ∧ h.2.1 ≤ q.2.2.1 := by
  unfold ctl at e
  split at e
  · repeat' split at e
    all_goals first | (cases e; exact ⟨Nat.le_refl _, Nat.le_refl _⟩) | cases e
  · repeat' split at e
    all_goals first | (cases e; exact ⟨Nat.le_refl _, Nat.le_refl _⟩) | cases e
  · repeat' split at e
    all_goals first | (cases e; exact ⟨Nat.le_refl _, Nat.le_refl _⟩) | cases e
  · repeat' split at e
    all_goals first | (cases e; exact ⟨Nat.le_refl _, Nat.le_refl _⟩) | cases e
  · split at e
    · split at e
      · split at e
        · exact thr_up hr e
        · cases e
      · cases e
    · cases e
  · split at e
    · have b := hr _ _ _ _ _ _ _ e
      exact ⟨Nat.le_trans (Nat.le_add_right _ _) b.1, Nat.le_trans (Nat.le_add_right _ _) b.2⟩
    · cases e
  · exact cal_up hr e
  · exact cal_up hr e
  · exact cal_up hr e
  · cases e
theorem exec_up : ∀ n d m pc ls st h q, exec n d m pc ls st h = some q → h.1 ≤ q.2.1 ∧ h.2.1 ≤ q.2.2.1
  | 0, _, _, _, _, _, _, _, e => by cases e
  | n + 1, d, m, pc, ls, st, h, q, e => by
    have e' : stp (exec n) d m pc ls st h = some q := e
    unfold stp at e'
    split at e'
    · cases e'
    · split at e'
      · cases e'
      · split at e'
        · exact exec_up n _ _ _ _ _ _ _ e'
        · split at e'
          · cases hx : nxt st with
            | false => rw [hx] at e'; cases e'
            | true => rw [hx] at e'; exact exec_up n _ _ _ _ _ _ _ e'
          · split at e'
            · rename_i q3 h3
              have b := exec_up n _ _ _ _ _ _ _ e'
              have a := hp_up (st' := q3.1) (h' := q3.2) h3
              exact ⟨Nat.le_trans a.1 b.1, Nat.le_trans a.2 b.2⟩
            · exact ctl_up (exec_up n) e'
