def THW (d : Nat) (F : List FR) (h : AH) (q : Nat) (Q : AR → AH → Prop) : Prop := cnt Q F d (.inr q) h
section CallRows
variable {d m pc : Nat} {ls st : List AV} {h : AH} {F : List FR} {Q : AR → AH → Prop}
theorem RUN_cal {x y kd b : Nat} {z : Int} (hx : ∀ n, exec (n + 1) (d + 1) m pc ls st h = cal (exec n) kd (d + 1) m pc x ls st h) (hp : pl (mK m) x = (1, y, b, z)) (hc : calO kd (mA y + (bif kd.beq 0 then 0 else 1)) y st h = true) :
    RUN (d + 1) ((m, pc, ls, st) :: F) h Q = RUN d ((y, 0, ent y (st.take (mA y + (bif kd.beq 0 then 0 else 1))).reverse, []) :: (m, pc + 3, ls, st.drop (mA y + (bif kd.beq 0 then 0 else 1))) :: F) h Q := by
  have hcal : ∀ n, cal (exec n) kd (d + 1) m pc x ls st h = (match exec n d y 0 (ent y (st.take (mA y + (bif kd.beq 0 then 0 else 1))).reverse) [] h with
      | some (.inl r, h') => exec n (d + 1) m (pc + 3) ls (r.toList ++ st.drop (mA y + (bif kd.beq 0 then 0 else 1))) h'
      | some (.inr q, h') => thr (exec n) (d + 1) m pc ls h' q
      | none => none) := by
    intro n
    unfold cal
    rw [hp]
    simp only [hc, if_true]
    rfl
  refine propext ⟨?_, ?_⟩
  · rintro ⟨n, q, k, h1, h2⟩
    cases n with
    | zero => cases h1
    | succ n =>
      dsimp only at h1
      rw [hx, hcal] at h1
      split at h1
      · rename_i r h' e
        exact ⟨n, .inl r, h', e, n, q, k, h1, h2⟩
      · rename_i r h' e
        exact ⟨n, .inr r, h', e, n, q, k, h1, h2⟩
      · cases h1
  · rintro ⟨n, q, k, h1, h2⟩
    dsimp only at h1
    cases q with
    | inl r =>
      obtain ⟨n2, q2, k2, h3, h4⟩ := h2
      refine ⟨max n n2 + 1, q2, k2, ?_, h4⟩
      dsimp only
      rw [hx, hcal, exec_le (Nat.le_max_left n n2) h1]
      exact exec_le (Nat.le_max_right n n2) h3
    | inr a =>
      obtain ⟨n2, q2, k2, h3, h4⟩ := h2
      refine ⟨max n n2 + 1, q2, k2, ?_, h4⟩
      dsimp only
      rw [hx, hcal, exec_le (Nat.le_max_left n n2) h1]
      exact thr_mono (fun _ _ _ _ _ _ _ => exec_le (Nat.le_max_right n n2)) h3
theorem RUN_ret0 {r : Option AV} (hx : ∀ n, exec (n + 1) d m pc ls st h = some (.inl r, h)) : RUN d [(m, pc, ls, st)] h Q = Q (.inl r) h := by
  refine propext ⟨?_, ?_⟩
  · rintro ⟨n, q, k, h1, h2⟩
    cases n with
    | zero => cases h1
    | succ n => dsimp only at h1; rw [hx] at h1; cases h1; exact h2
  · intro hq
    exact ⟨1, _, _, hx 0, hq⟩
theorem RUN_ret {r : Option AV} {f : FR} (hx : ∀ n, exec (n + 1) d m pc ls st h = some (.inl r, h)) : RUN d ((m, pc, ls, st) :: f :: F) h Q = RUN (d + 1) ((f.1, f.2.1, f.2.2.1, r.toList ++ f.2.2.2) :: F) h Q := by
  refine propext ⟨?_, ?_⟩
  · rintro ⟨n, q, k, h1, h2⟩
    cases n with
    | zero => cases h1
    | succ n => dsimp only at h1; rw [hx] at h1; cases h1; exact h2
  · intro hq
    exact ⟨1, _, _, hx 0, hq⟩
theorem RUN_out {q : Nat} (hx : ∀ n, exec (n + 1) d m pc ls st h = some (.inr q, h)) : RUN d ((m, pc, ls, st) :: F) h Q = THW d F h q Q := by
  refine propext ⟨?_, ?_⟩
  · rintro ⟨n, q, k, h1, h2⟩
    cases n with
    | zero => cases h1
    | succ n => dsimp only at h1; rw [hx] at h1; cases h1; exact h2
  · intro hq
    exact ⟨1, _, _, hx 0, hq⟩
theorem THW_up {m2 pc2 : Nat} {ls2 st2 : List AV} {ci : Nat} (hc : 13 ≤ ci ∧ ci < 18) (hh : hnd m2 (pc2 - 3) ci (hT m2) = some none) : THW d ((m2, pc2, ls2, st2) :: F) h ci Q = THW (d + 1) F h ci Q := by
  have e : ∀ rc : RC, thr rc (d + 1) m2 (pc2 - 3) ls2 h ci = some (.inr ci, h) := fun rc => by
    unfold thr
    rw [if_pos hc, hh]
  refine propext ⟨?_, ?_⟩
  · rintro ⟨n, r, k, h1, h2⟩
    rw [e] at h1
    cases h1
    exact h2
  · intro hq2
    exact ⟨0, .inr ci, h, e _, hq2⟩
theorem THW_catch {m2 pc2 : Nat} {ls2 st2 : List AV} {ci g g2 k : Nat} (hc : 13 ≤ ci ∧ ci < 18) (hh : hnd m2 (pc2 - 3) ci (hT m2) = some (some g)) (hd : (∃ j : Fin 4, j.val = k ∧ decode (mC m2) g = .ok (.astore_n j, 1) ∧ g2 = g + 1) ∨ (decode (mC m2) g = .ok (.astore k, 2) ∧ g2 = g + 2)) (hk : k < ls2.length) : THW d ((m2, pc2, ls2, st2) :: F) h ci Q = RUN (d + 1) ((m2, g2, st1 k vU ls2, []) :: F) h Q := by
  have e : ∀ rc : RC, thr rc (d + 1) m2 (pc2 - 3) ls2 h ci = rc (d + 1) m2 g2 (st1 k vU ls2) [] h := fun rc => by
    unfold thr
    rw [if_pos hc, hh]
    dsimp only
    rcases hd with ⟨j, rfl, hd, rfl⟩ | ⟨hd, rfl⟩
    · rw [hd]
      exact if_pos hk
    · rw [hd]
      exact if_pos hk
  refine propext ⟨?_, ?_⟩
  · rintro ⟨n, r, k, h1, h2⟩
    rw [e] at h1
    exact ⟨n, r, k, h1, h2⟩
  · rintro ⟨n, r, k, h1, h2⟩
    exact ⟨n, r, k, by rw [e]; exact h1, h2⟩
end CallRows
