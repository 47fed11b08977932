/-! ===== CALLS: the words of a callee, the run of a call ===== -/
theorem hTk_of {m : Nat} : ∀ {L : List (Nat × List (Nat × Nat × Nat × Nat))}, hTk m L ≠ [] → ∃ q ∈ L, q.1 = m
  | [], h => absurd rfl h
  | q :: r, h => by
    unfold hTk at h
    cases hb : q.1.beq m with
    | true => exact ⟨q, List.mem_cons_self, bq hb⟩
    | false =>
      rw [hb] at h
      obtain ⟨q2, h1, h2⟩ := hTk_of (L := r) h
      exact ⟨q2, List.mem_cons_of_mem _ h1, h2⟩
theorem hTb_static : (hTb.all fun q => (mS q.1).beq 0) = true := by decide +kernel
theorem hT_static {y : Nat} (h : hT y ≠ []) : mS y = 0 := by
  obtain ⟨q, h1, rfl⟩ := hTk_of h
  exact bq (List.all_eq_true.mp hTb_static q h1)
theorem hT_nest : ∀ c, ((ptb.getD c []).all fun q => !(q.2.1.beq 1 && (!(q.2.2.2.1.beq 0) && !(hT q.2.2.1).isEmpty))) = true := fun c => match c with
  | 0 => by decide +kernel
  | 1 => by decide +kernel
  | 2 => by decide +kernel
  | 3 => by decide +kernel
  | 4 => by decide +kernel
  | 5 => by decide +kernel
  | 6 => by decide +kernel
  | 7 => by decide +kernel
  | 8 => by decide +kernel
  | 9 => by decide +kernel
  | 10 => by decide +kernel
  | 11 => by decide +kernel
  | 12 => by decide +kernel
  | 13 => by decide +kernel
  | 14 => by decide +kernel
  | 15 => by decide +kernel
  | 16 => by decide +kernel
  | 17 => by decide +kernel
  | 18 => by decide +kernel
  | 19 => by decide +kernel
  | n + 20 => rfl
theorem nest_plain {c x y b : Nat} {z : Int} (h : pl c x = (1, y, b, z)) (hb : b ≠ 0) : hT y = [] := by
  have h1 := List.all_eq_true.mp (hT_nest c) _ (plk_mem h (by decide))
  dsimp only at h1
  have h2 : b.beq 0 = false := by
    cases h3 : b.beq 0 with
    | false => rfl
    | true => exact absurd (bq h3) hb
  rw [h2] at h1
  cases h4 : hT y with
  | nil => rfl
  | cons q r => rw [h4] at h1; cases h1
theorem cN_plain : ∀ c, c < 20 → cN c ≠ "java/lang/invoke/MethodHandle" ∧ cN c ≠ "java/lang/invoke/VarHandle" := by decide +kernel
section CallW
variable {l : Launch} {sz : Nat} {X : Nat → Value} {tid : Nat → ClassId} {D : va_G} {XC : Nat → AC} {p : Program} {e : Env} {R : Room} {s : State} {mid : MethodId} {args : Array Value} {below : List Frame} {meth : Method} {c : Code} {H : Heap} {locs : List Loc} {cells slots : Nat} {lsr : Array Slot} {hB h h' : AH} {d m pc : Nat} {ls st : List AV} {r : AR} {Q : State → Prop}
theorem code_goodS {y : Nat} {w : Cond} (hy : y < 332) (hw : w ∈ wsY y) : w ∈ lw_tbl ∧ goodWord w = true := by
  have h1 := (mfA y hy).1
  unfold wsY at hw
  cases hh : hT y with
  | nil =>
    rw [hh] at hw h1
    rw [List.mem_singleton.mp hw]
    exact ⟨h1, rfl⟩
  | cons q r =>
    rw [hh] at hw h1
    rw [List.mem_singleton.mp hw]
    exact ⟨h1, rfl⟩
theorem words_goodS (hN : EN sz X tid D XC s) {y : Nat} (hy : y < 332) : ∀ w ∈ wsY y, ∀ (a' : Array Value) (U : State), s.WarmedH U.vm → w.before a' U = true := fun w hw _ _ hW => word_at hW (good_of_word (code_goodS hy hw).2) (hN.1 w (code_goodS hy hw).1 (code_goodS hy hw).2 #[])
theorem par_len {y n : Nat} (hy : y < 332) (hn : n = mA y) : ∀ sig, parseMethodDescriptor (mN y).desc = some sig → n = sig.parameters.length := fun sig hs => by
  have h1 := (mfA y hy).2.2.2.2.2.2.1
  rw [hs] at h1
  exact hn.trans (Option.some.inj h1).symm
theorem cls_plain {y : Nat} (hy : y < 332) : (mN y).cls ≠ "java/lang/invoke/MethodHandle" ∧ (mN y).cls ≠ "java/lang/invoke/VarHandle" := by
  have h1 := mfA y hy
  rw [h1.2.2.2.2.1]
  exact cN_plain _ h1.2.2.2.2.2.2.2.2.1
theorem callB_S (hN : EN sz X tid D XC s) {y x d' : Nat} {h1 : AH} (hy : y < 332) (hT0 : hT y = []) (hF : 10 + (d' + 1) ≤ R.frames) (hL : 300 + 60 * (d' + 1) ≤ R.locals) (hl : (Cond.methodLink (cN (mK m)) x (mN y)).before args s = true) :
    CallB R s args (cN (mK m)) x (mN y) (mC y) (mL y) (mR y) (wsY y) (rmS d' h h1) (h1.1 - h.1) (h1.2.1 - h.2.1) (mA y) := by
  have hmf := mfA y hy
  have hws : wsY y = [Cond.code (mN y) (mC y) (mL y) (mR y)] := by unfold wsY; rw [hT0]
  have hc : Cond.code (mN y) (mC y) (mL y) (mR y) ∈ wsY y := by rw [hws]; exact List.mem_cons_self
  have hLL := hmf.2.2.2.2.2.2.2.1
  exact ⟨rfl, rfl, (by show 10 + d' + 1 ≤ R.frames; omega), (by show 8 + (mL y + 11) + (300 + 60 * d') ≤ R.locals; omega), words_goodS hN hy, hc, hN.1 _ (code_goodS hy hc).1 rfl args, hN.1 _ hmf.2.2.2.1 rfl args, cls_plain hy, par_len hy rfl, hl⟩
theorem callN_S (hN : EN sz X tid D XC s) {y x d' : Nat} {h1 : AH} (hy : y < 332) (hT0 : hT y = []) (hF : 10 + (d' + 1) ≤ R.frames) (hL : 300 + 60 * (d' + 1) ≤ R.locals) (hl : (Cond.methodLinkNest (cN (mK m)) x (mN y) "GlassHill").before args s = true) :
    va_CN R s args (cN (mK m)) x (mN y) "GlassHill" (mC y) (mL y) (mR y) (wsY y) (rmS d' h h1) (h1.1 - h.1) (h1.2.1 - h.2.1) (mA y) := by
  have hmf := mfA y hy
  have hws : wsY y = [Cond.code (mN y) (mC y) (mL y) (mR y)] := by unfold wsY; rw [hT0]
  have hc : Cond.code (mN y) (mC y) (mL y) (mR y) ∈ wsY y := by rw [hws]; exact List.mem_cons_self
  have hLL := hmf.2.2.2.2.2.2.2.1
  exact ⟨⟨rfl, rfl, (by show 10 + d' + 1 ≤ R.frames; omega), (by show 8 + (mL y + 11) + (300 + 60 * d') ≤ R.locals; omega), words_goodS hN hy, hc⟩, hN.1 _ (code_goodS hy hc).1 rfl args, hN.1 _ hmf.2.2.2.1 rfl args, cls_plain hy, par_len hy rfl, hl⟩
theorem callX_S (hN : EN sz X tid D XC s) {y x d' : Nat} {h1 : AH} {q : Nat × Nat × Nat × Nat} {r9 : List (Nat × Nat × Nat × Nat)} (hy : y < 332) (hT0 : hT y = q :: r9) (hF : 10 + (d' + 1) ≤ R.frames) (hL : 300 + 60 * (d' + 1) ≤ R.locals) (hl : (Cond.methodLink (cN (mK m)) x (mN y)).before args s = true) (hst : (Cond.static (mN y)).before args s = true) :
    vx_CSW R s args (cN (mK m)) x (mN y) (mC y) (mL y) (mR y) (q :: r9) (wsY y) (rmS d' h h1) (h1.1 - h.1) (h1.2.1 - h.2.1) (mA y) := by
  have hmf := mfA y hy
  have hws : wsY y = [Cond.codeWith (mN y) (mC y) (mL y) (mR y) (q :: r9)] := by unfold wsY; rw [hT0]
  have hc : Cond.codeWith (mN y) (mC y) (mL y) (mR y) (q :: r9) ∈ wsY y := by rw [hws]; exact List.mem_cons_self
  have hLL := hmf.2.2.2.2.2.2.2.1
  exact ⟨⟨rfl, rfl, (by show 10 + d' + 1 ≤ R.frames; omega), (by show 8 + (mL y + 11) + (300 + 60 * d') ≤ R.locals; omega), words_goodS hN hy, hc⟩, hN.1 _ (code_goodS hy hc).1 rfl args, hN.1 _ hmf.2.2.2.1 rfl args, cls_plain hy, par_len hy rfl, hl, hst⟩
/-- what a receiver is -/
theorem recv_S (hN : EN sz X tid D XC s) (hI : IN sz X tid D XC s hB h H locs cells slots) {k : Nat} {vs : List AV} (hr : rcv k vs h = true) (hE : h.1 ≤ E0) :
    ∃ (b9 : Nat) (vs' : List AV) (v : AV), vs = v :: vs' ∧ cv sz X v = .ref b9 ∧ ∃ cellB : Cell, H[b9]? = some cellB ∧ cellB.vm.isStatics = false ∧ s.vm.findClass (cN k) = some cellB.cls := by
  unfold rcv at hr
  split at hr
  · rename_i a vs'
    split at hr
    · rename_i c0 fs hg
      by_cases ha : a < h.1
      · rw [decide_eq_true ha] at hr
        obtain ⟨rfl, hk⟩ := of_decide_eq_true hr
        have he := wsH_get (sz := sz) (X := X) (tid := tid) ha
        have hp := hI.1 a _ he
        rw [hg] at hp
        obtain ⟨r9, hr9, cell, q1, q2, q3, -⟩ := hp
        have hcf := (cfA c0 hk).1
        cases Option.some.inj (hr9.symm.trans hcf)
        refine ⟨sz + a, vs', _, rfl, cv_lo (Nat.lt_of_lt_of_le ha hE), cell, q1, by rw [q3]; rfl, ?_⟩
        rw [q2]
        exact (hN.2.1.1 c0 _ hcf).2.1
      · rw [decide_eq_false ha] at hr
        obtain ⟨hb, rfl, rfl⟩ := of_decide_eq_true hr
        have hx := hI.2.2.2.2.2.2 a hb
        rw [hg] at hx
        obtain ⟨-, q9, v, w, -, hq, ⟨cell, o1, o2, o3, o4⟩, -, -⟩ := hN.2.2.2.2.1.1 a hb 50 fs hx.symm (by decide)
        refine ⟨q9, vs', _, rfl, (cv_hi hb).trans hq, cell, ?_, o2, o3⟩
        rw [hI.2.2.2.2.2.1.2.1 q9 (Array.getElem?_eq_some_iff.mp o1).1 o4]
        exact o1
    · cases hr
  · cases hr
end CallW
