/-! ===== A RUN OF THE SMALL MACHINE IS A RUN OF THE LARGE ONE ===== -/
theorem pl0 : ∀ c, pl c 0 = (99, 0, 0, 0) := fun c => match c with
  | 0 => by decide +kernel
  | 1 => by decide +kernel
  | 2 => by decide +kernel
  | 3 => by decide +kernel
  | 4 => by decide +kernel
  | 5 => by decide +kernel
  | 6 => by decide +kernel
  | 7 => by decide +kernel
  | 8 => by decide +kernel
  | 9 => by decide +kernel
  | 10 => by decide +kernel
  | 11 => by decide +kernel
  | 12 => by decide +kernel
  | 13 => by decide +kernel
  | 14 => by decide +kernel
  | 15 => by decide +kernel
  | 16 => by decide +kernel
  | 17 => by decide +kernel
  | 18 => by decide +kernel
  | 19 => by decide +kernel
  | n + 20 => rfl
/-- a row of a table that lets an exception of the class ci at pc by -/
def PSS (m pc ci : Nat) (z : ExceptionTableEntry) : Prop := covers z pc = false ∨ (z.catchType ≠ 0 ∧ ∃ c, (13 ≤ c ∧ c < 18) ∧ c ≠ ci ∧ Cond.classLink (cN (mK m)) z.catchType (xN c) ∈ lw_tbl)
theorem pl_ne {c t a b q : Nat} {z : Int} (h : pl c t = (q, a, b, z)) (hq : q ≠ 99) : t ≠ 0 := fun e => by
  subst e
  rw [pl0] at h
  cases h
  exact hq rfl
theorem hnd_none {m pc ci : Nat} : ∀ {L : List (Nat × Nat × Nat × Nat)}, hnd m pc ci L = some none → ∀ z ∈ tableOf L, PSS m pc ci z
  | [], _, z, hz => nomatch hz
  | (b, e, g, t) :: r, h, z, hz => by
    unfold hnd at h
    split at h
    · split at h
      · rename_i c _ _ hp
        split at h
        · cases h
        · rename_i hne
          rcases List.mem_cons.mp hz with rfl | hz
          · have hpf := pl_PF hp (by decide)
            exact Or.inr ⟨pl_ne hp (by decide), c, hpf.1, hne, hpf.2⟩
          · exact hnd_none h z hz
      · cases h
    · rename_i hc
      rcases List.mem_cons.mp hz with rfl | hz
      · refine Or.inl ?_
        show (decide (b ≤ pc) && decide (pc < e)) = false
        simp only [Bool.and_eq_false_iff, decide_eq_false_iff_not]
        omega
      · exact hnd_none h z hz
theorem hnd_some {m pc ci g0 : Nat} : ∀ {L : List (Nat × Nat × Nat × Nat)}, hnd m pc ci L = some (some g0) → ∃ pre x suf, tableOf L = pre ++ x :: suf ∧ (∀ z ∈ pre, PSS m pc ci z) ∧ covers x pc = true ∧ x.catchType ≠ 0 ∧ Cond.classLink (cN (mK m)) x.catchType (xN ci) ∈ lw_tbl ∧ x.handlerPc = g0
  | [], h => nomatch h
  | (b, e, g, t) :: r, h => by
    unfold hnd at h
    split at h
    · rename_i hcv
      split at h
      · rename_i c _ _ hp
        have hpf := pl_PF hp (by decide)
        split at h
        · rename_i hne
          subst hne
          cases h
          exact ⟨[], ⟨b, e, g0, t⟩, tableOf r, rfl, fun z hz => (nomatch hz), by show (decide (b ≤ pc) && decide (pc < e)) = true; simp [hcv], pl_ne hp (by decide), hpf.2, rfl⟩
        · rename_i hne
          obtain ⟨pre, x, suf, h1, h2, h3⟩ := hnd_some h
          refine ⟨⟨b, e, g, t⟩ :: pre, x, suf, ?_, fun z hz => ?_, h3⟩
          · show (⟨b, e, g, t⟩ : ExceptionTableEntry) :: tableOf r = _
            rw [h1]
            rfl
          · rcases List.mem_cons.mp hz with rfl | hz
            · exact Or.inr ⟨pl_ne hp (by decide), c, hpf.1, hne, hpf.2⟩
            · exact h2 z hz
      · cases h
    · rename_i hc
      obtain ⟨pre, x, suf, h1, h2, h3⟩ := hnd_some h
      refine ⟨⟨b, e, g, t⟩ :: pre, x, suf, ?_, fun z hz => ?_, h3⟩
      · show (⟨b, e, g, t⟩ : ExceptionTableEntry) :: tableOf r = _
        rw [h1]
        rfl
      · rcases List.mem_cons.mp hz with rfl | hz
        · refine Or.inl ?_
          show (decide (b ≤ pc) && decide (pc < e)) = false
          simp only [Bool.and_eq_false_iff, decide_eq_false_iff_not]
          omega
        · exact h2 z hz
theorem LR_stU {sz : Nat} {X : Nat → Value} {ls : List AV} {k : Nat} {w : Value} {ls' : Array Slot} (hX : ∀ a, (X a).category = 1) (hk : k < ls.length) (h : lv_has ls' ls.length ((k, w) :: (prs sz X ls).filter (fun q => !(q.1 == k) && !(q.1 + 1 == k && q.2.category == 2)))) : LR sz X ls' (st1 k vU ls) := by
  obtain ⟨h1, h2, h3⟩ := h
  refine ⟨by rw [h1]; simp [st1, clr_len], h2, fun j v hj hw => ?_⟩
  unfold st1 at hj
  by_cases e : j = k
  · subst e
    rw [List.getElem?_set_self (by rw [clr_len]; exact hk)] at hj
    exact absurd (Option.some.inj hj).symm hw
  · rw [List.getElem?_set_ne (Ne.symm e)] at hj
    obtain ⟨g1, g2⟩ := clr_get hj hw
    refine h3 (j, cv sz X v) (List.mem_cons_of_mem _ (List.mem_filter.mpr ⟨mem_prs.mpr ⟨v, g1, hw, rfl⟩, ?_⟩))
    simp only [Bool.and_eq_true, Bool.not_eq_true', beq_eq_false_iff_ne, ne_eq, e, not_false_eq_true, true_and]
    by_cases e2 : j + 1 = k
    · rw [cv_cat2 hX (g2 e2), Bool.and_false]
    · rw [beq_eq_false_iff_ne.mpr e2, Bool.false_and]
section Sim
variable (sz : Nat) (X : Nat → Value) (tid : Nat → ClassId) (D : va_G) (XC : Nat → AC)
def PcS (vs : List AV) (h : AH) : Array Value → State → Prop := fun a u => a = (vs.map (cv sz X)).toArray ∧ EN sz X tid D XC u ∧ va_P D clA (wsH sz X tid h) u.heap ∧ u.heap.size = sz + h.1 ∧ ∀ a, E0 ≤ a → gt h a = XC a
def EdS (h : AH) (t : State) : Prop := va_P D clA (wsH sz X tid h) t.heap ∧ t.heap.size = sz + h.1 ∧ ∀ a, E0 ≤ a → gt h a = XC a
def QcS (r : AR) (h : AH) : Array Value → State → Outcome → State → Prop := fun _ u o t => (∃ v, r = .inl v ∧ o = .returned (v.map (cv sz X)) ∧ EdS sz X tid D XC h t) ∧ va_F (fun q => sz ≤ q) u t
def XcS (r : AR) (h : AH) : String → State → State → Prop := fun E u t => (∃ ci, r = .inr ci ∧ (13 ≤ ci ∧ ci < 18) ∧ E = xN ci ∧ EdS sz X tid D XC h t) ∧ va_F (fun q => sz ≤ q) u t
/-- a body that is walked: its method, its class, its table, its room -/
def BD (p : Program) (l : Launch) (R : Room) (s : State) (mid : MethodId) (meth : Method) (c : Code) (m d : Nat) : Prop :=
  p.tables.exec = Jvm.exec ∧ c.code = mC m ∧ c.maxLocals = mL m ∧ s.vm.findClass (cN (mK m)) = some mid.cls ∧ (mS m = 2 → meth.name = "<init>") ∧ EN sz X tid D XC s ∧ 10 + d ≤ R.frames ∧ 300 + 60 * d ≤ R.locals ∧ meth.sig.returnType = mR m ∧ meth.locks = false ∧ c.exceptionTable.toList = tableOf (hT m) ∧ l.stackTraces = false
/-- what is owed at a body's end -/
def EndS (below : List Frame) (args : Array Value) (s : State) (hB : AH) (r : AR) (h : AH) : State → Prop := vx_MQ below (QcS sz X tid D XC r h) (XcS sz X tid D XC r h) args s (h.1 - hB.1) (h.2.1 - hB.2.1) (fun q => sz ≤ q)
end Sim
def rmS (d : Nat) (h h' : AH) : Room := { frames := 10 + d, locals := 300 + 60 * d, cells := h'.1 - h.1, slots := h'.2.1 - h.2.1 }
def wsY (y : Nat) : List Cond := match hT y with
  | [] => [Cond.code (mN y) (mC y) (mL y) (mR y)]
  | hh => [Cond.codeWith (mN y) (mC y) (mL y) (mR y) hh]
def SW (l : Launch) (rc : RC) : Prop := ∀ (d m pc : Nat) (ls st : List AV) (h : AH) (r : AR) (h' : AH), rc d m pc ls st h = some (r, h') → h'.1 ≤ E0 →
  ∀ (sz : Nat) (X : Nat → Value) (tid : Nat → ClassId) (D : va_G) (XC : Nat → AC) (p : Program) (e : Env) (R : Room) (s : State) (mid : MethodId) (args : Array Value) (below : List Frame) (meth : Method) (c : Code) (H : Heap) (locs : List Loc) (cells slots : Nat) (lsr : Array Slot) (hB : AH),
    BD sz X tid D XC p l R s mid meth c m d → ls.length = mL m → LR sz X lsr ls → IN sz X tid D XC s hB h H locs cells slots → h'.1 ≤ hB.1 + R.cells → h'.2.1 ≤ hB.2.1 + R.slots →
    W p l e R s mid args below meth c H locs cells slots (EndS sz X tid D XC below args s hB r h') (F0 mid pc lsr (st.map (cv sz X)))
theorem blindS {sz : Nat} {X : Nat → Value} {tid : Nat → ClassId} {D : va_G} {XC : Nat → AC} {vs : List AV} {h : AH} : FrameBlind (PcS sz X tid D XC vs h) := fun a U g mk hP => by
  obtain ⟨h1, h2, h3⟩ := hP
  exact ⟨h1, h2.moved (U := U.calling g mk a) (State.WarmedH.refl U) (fun _ _ => rfl) h2.2.2.2.1, h3⟩
theorem met_of {l : Launch} {rc : RC} (hS : SW l rc) (hl : l.stackTraces = false) {d y : Nat} {vs : List AV} {h h' : AH} {r : AR} (hy : y < 332) (e : rc d y 0 (ent y vs) [] h = some (r, h')) (hlay : (lay vs).length ≤ mL y) (hE : h'.1 ≤ E0)
    {sz : Nat} {X : Nat → Value} {tid : Nat → ClassId} {D : va_G} {XC : Nat → AC} :
    vx_Met l (mN y) (wsY y) (rmS d h h') (PcS sz X tid D XC vs h) (QcS sz X tid D XC r h') (XcS sz X tid D XC r h') (h'.1 - h.1) (h'.2.1 - h.2.1) (fun q => sz ≤ q) := by
  obtain ⟨hc, -, -, -, hcls, hpn, -, -, -, hini⟩ := mfA y hy
  have key : ∀ (p : Program) (en : Env) (s : State) (m : MethodId) (args : Array Value) (below : List Frame) (meth : Method) (c : Code) (s₁ : State), BodyLoose p l (mN y) (headSpec (wsY y) (rmS d h h')) (mC y) (mL y) (mR y) en s m args below meth c s₁ → c.maxLocals = mL y → c.exceptionTable.toList = tableOf (hT y) → PcS sz X tid D XC vs h args s →
      W p l en (headSpec (wsY y) (rmS d h h')).room s m args below meth c s.heap [] 0 0 (vx_MQ below (QcS sz X tid D XC r h') (XcS sz X tid D XC r h') args s (h'.1 - h.1) (h'.2.1 - h.2.1) (fun q => sz ≤ q)) (entryFrame m args (mL y)) := by
    intro p en s m args below meth c s₁ B hml htab hP
    obtain ⟨rfl, hN, hP1, hP2, hP3⟩ := hP
    rw [lg_entry_eq]
    have hX1 : ∀ a, (X a).category = 1 := fun a => by rcases hN.2.2.1 a with h | ⟨q, h⟩ <;> rw [h] <;> rfl
    have hLR := LR_ent (sz := sz) (X := X) (y := y) (vs := vs) hX1 hlay
    refine hS d y 0 _ [] h r h' e hE sz X tid D XC p en _ s m _ below meth c s.heap [] 0 0 _ h ⟨B.exec, B.bytes, hml, ?_, fun h2 => ?_, hN, Nat.le_refl _, Nat.le_refl _, B.returns, B.notSynchronized, htab, hl⟩ (by simp [ent]; omega) hLR ⟨hP1, hP2, hP2, Nat.zero_add _, Nat.zero_add _, ⟨Nat.le_refl _, fun _ _ _ => rfl, fun _ hz => nomatch hz⟩, hP3⟩ ?_ ?_
    · rw [← hcls]
      exact findClass_of_methodNamed B.named
    · have hn := (name_of_methodNamed B.named B.method).1
      rw [h2] at hini
      exact hn.trans hini.1
    · show h'.1 ≤ h.1 + (h'.1 - h.1)
      omega
    · show h'.2.1 ≤ h.2.1 + (h'.2.1 - h.2.1)
      omega
  cases hh : hT y with
  | nil =>
    have hw : wsY y = [Cond.code (mN y) (mC y) (mL y) (mR y)] := by unfold wsY; rw [hh]
    refine vx_ofW (cc := mC y) (maxL := mL y) (ret := mR y) hpn hw (fun p en s m args below meth c s₁ B hml hno hP => key p en s m args below meth c s₁ B hml ?_ hP)
    rw [hh]
    cases hx : c.exceptionTable.toList with
    | nil => rfl
    | cons x _ => exact (hno x (by rw [hx]; exact List.mem_cons_self)).elim
  | cons z0 z1 =>
    have hw : wsY y = [Cond.codeWith (mN y) (mC y) (mL y) (mR y) (z0 :: z1)] := by unfold wsY; rw [hh]
    refine vx_ofWH (cc := mC y) (maxL := mL y) (ret := mR y) (hh := z0 :: z1) hpn hw (fun p en s m args below meth c s₁ B hml hP => key p en s m args below meth c s₁ B hml ?_ hP)
    rw [hh]
    exact vx_table (x := mN y) (y := mN y) (bytes := mC y) (maxL' := mL y) (ret' := mR y) B (atoms_spec (ws := wsY y) B.pre _ (by rw [hw]; exact List.mem_cons_self))
