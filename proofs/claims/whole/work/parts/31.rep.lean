/-! ===== what the heap of the small machine is, told by numbers ===== -/
def mU (M : MM) (a k : Nat) (x : Int) : MM := fun b => if b = a then up (M a) k x else M b
def mV (M : MM) (a : Nat) (f : Nat → Int) : MM := fun b => if b = a then f else M b
def slv (M : MM) (A a k : Nat) (s : Nat × Nat) : AV := match s.1 with
  | 0 => vI (M a k)
  | 1 => vN
  | 2 => if M a k = 0 then vN else vR (M a k).toNat
  | 3 => vR (A + s.2)
  | _ => vR s.2
def celS (M : MM) (A a : Nat) (s : SH) : AC := match s.1 with
  | 0 => cA s.2.1 s.2.2.1 (M a)
  | 1 => cQ s.2.2.1 (fun j => (s.2.2.2[j]?).map (fun q => q.2))
  | _ => cO s.2.1 (s.2.2.2.zipIdx.map fun q => slv M A a q.2 q.1)
/-- the cell at A is that of the memory's place a, of the shape s -/
def LOC (M : MM) (A a : Nat) (s : SH) : Prop := (A = a ∧ a < 182 ∧ shp a = s) ∨ ∃ j, j < 5 ∧ M 0 17 ≠ 0 ∧ A = (M 0 17).toNat + j ∧ a = 1000 + j ∧ shS[j]? = some s
/-- what the law finds -/
def xcG (e : Nat) (Z : Nat × (Nat → Int)) (a : Nat) : AC := match a - e with
  | 0 => cA 0 Z.1 Z.2
  | 1 => cO 60 []
  | b + 2 => if b / 2 < 79 then (if b % 2 = 0 then cO 50 [vR (e + b + 3), vI 0] else cA 2 (stN.getD (b / 2) 0) (fun j => ((stB.getD (b / 2) []).getD j 0).toInt)) else cO 60 []
def xc (Z : Nat × (Nat → Int)) (a : Nat) : AC := xcG E0 Z a
def Rep (Z : Nat × (Nat → Int)) (M : MM) (h : AH) : Prop :=
  (∀ A a s, LOC M A a s → gt h A = celS M A a s) ∧ (0 ≤ M 999 0 ∧ M 999 0 ≤ 100000) ∧ h.1 = 182 + (M 999 0).toNat + (if M 0 17 = 0 then 0 else 5) ∧ h.2.1 = SL0 + 6 * (M 999 0).toNat + (if M 0 17 = 0 then 0 else SLS) ∧
  (M 0 17 ≠ 0 → 182 ≤ (M 0 17).toNat ∧ (M 0 17).toNat + 5 ≤ h.1) ∧ ∀ a, E0 ≤ a → gt h a = xc Z a
/-- from here a run comes to its end with res, the memory told -/
def EX (Z : Nat × (Nat → Int)) (d m pc : Nat) (ls st : List AV) (M : MM) (res : AR × MM) : Prop := (M 0 17 ≠ 0 → res.2 0 17 = M 0 17) ∧ ∀ h, Rep Z M h → ∃ n h', exec n d m pc ls st h = some (res.1, h') ∧ Rep Z res.2 h'
theorem mU_ne {M : MM} {a b k : Nat} {x : Int} (h : b ≠ a) : mU M a k x b = M b := if_neg h
theorem mU_eq {M : MM} {a k : Nat} {x : Int} : mU M a k x a = up (M a) k x := if_pos rfl
theorem mV_ne {M : MM} {a b : Nat} {f : Nat → Int} (h : b ≠ a) : mV M a f b = M b := if_neg h
theorem mV_eq {M : MM} {a : Nat} {f : Nat → Int} : mV M a f a = f := if_pos rfl
theorem celS_congr {M M' : MM} {A a : Nat} {s : SH} (h : M' a = M a) : celS M' A a s = celS M A a s := by
  simp only [celS, slv, h]
theorem LOC_congr {M M' : MM} {A a : Nat} {s : SH} (h : M' 0 17 = M 0 17) : LOC M' A a s ↔ LOC M A a s := by
  simp only [LOC, h]
theorem LOC.st {M : MM} {a : Nat} {s : SH} (h1 : a < 182) (h2 : shp a = s) : LOC M a a s := Or.inl ⟨rfl, h1, h2⟩
theorem LOC.sr {M : MM} {q j : Nat} {s : SH} (hq : M 0 17 = (q : Int)) (h0 : q ≠ 0) (hj : j < 5) (hs : shS[j]? = some s) : LOC M (q + j) (1000 + j) s := Or.inr ⟨j, hj, by rw [hq]; omega, by rw [hq]; rfl, rfl, hs⟩
section RepRows
variable {Z : Nat × (Nat → Int)} {M : MM} {h : AH} {A a A2 a2 : Nat} {s s2 : SH}
theorem Rep.lt (hR : Rep Z M h) (hL : LOC M A a s) : A < h.1 := by
  obtain ⟨-, h2, h3, -, h5, -⟩ := hR
  rcases hL with ⟨rfl, h1, -⟩ | ⟨j, hj, h0, rfl, -, -⟩
  · omega
  · have := (h5 h0).2
    omega
theorem Rep.le (hR : Rep Z M h) : h.1 ≤ 182 + 100000 + 5 := by
  obtain ⟨-, h2, h3, -⟩ := hR
  split at h3 <;> omega
theorem Rep.leE (hR : Rep Z M h) : h.1 < E0 := Nat.lt_of_le_of_lt hR.le (by decide)
theorem Rep.inj1 (hR : Rep Z M h) (h1 : LOC M A a s) (h2 : LOC M A a2 s2) : a = a2 ∧ s = s2 := by
  have h5 := hR.2.2.2.2.1
  rcases h1 with ⟨rfl, p1, p2⟩ | ⟨j, hj, h0, e1, rfl, p2⟩ <;> rcases h2 with ⟨e2, q1, q2⟩ | ⟨j2, hj2, h02, e2, rfl, q2⟩
  · subst e2
    exact ⟨rfl, p2.symm.trans q2⟩
  · have := (h5 h02).1
    omega
  · have := (h5 h0).1
    omega
  · have e : j = j2 := by omega
    subst e
    exact ⟨rfl, Option.some.inj (p2.symm.trans q2)⟩
theorem LOC.inj2 (h1 : LOC M A a s) (h2 : LOC M A2 a s2) : A = A2 := by
  rcases h1 with ⟨rfl, p1, p2⟩ | ⟨j, hj, h0, e1, e3, p2⟩ <;> rcases h2 with ⟨e2, q1, q2⟩ | ⟨j2, hj2, h02, e2, e4, q2⟩ <;> omega
theorem LOC.n999 (h1 : LOC M A a s) : a ≠ 999 := by
  rcases h1 with ⟨rfl, p1, p2⟩ | ⟨j, hj, h0, e1, e3, p2⟩ <;> omega
theorem LOC.z (h1 : LOC M 0 a s) (hR : Rep Z M h) : a = 0 := by
  rcases h1 with ⟨rfl, p1, p2⟩ | ⟨j, hj, h0, e1, e3, p2⟩
  · rfl
  · have := (hR.2.2.2.2.1 h0).1
    omega
theorem Rep.put {M' : MM} {c : AC} (hR : Rep Z M h) (hL : LOC M A a s) (hM : ∀ b, b ≠ a → M' b = M b) (h17 : M' 0 17 = M 0 17) (hc : c = celS M' A a s) : Rep Z M' (sv h A c) := by
  have hlt := hR.lt hL
  have hE := hR.leE
  have h999 : M' 999 = M 999 := hM 999 (Ne.symm hL.n999)
  have hR0 := hR
  obtain ⟨r1, r2, r3, r4, r5, r6⟩ := hR
  refine ⟨fun A2 a2 s2 h2 => ?_, by rw [h999]; exact r2, by rw [h999, h17]; exact r3, by rw [h999, h17]; exact r4, by rw [h17]; exact r5, fun b hb => ?_⟩
  · have h2' := (LOC_congr h17).mp h2
    show (if A2 = A then c else gt h A2) = _
    by_cases e : A2 = A
    · subst e
      obtain ⟨rfl, rfl⟩ := hR0.inj1 hL h2'
      rw [if_pos rfl, hc]
    · rw [if_neg e, r1 A2 a2 s2 h2']
      refine (celS_congr (hM a2 fun e2 => e ?_)).symm
      subst e2
      exact h2'.inj2 hL
  · show (if b = A then c else gt h b) = _
    rw [if_neg (by omega)]
    exact r6 b hb
theorem cel_fld {cs : List (Nat × Nat)} {k : Nat} {q : Nat × Nat} (hk : cs[k]? = some q) : (cs.zipIdx.map fun q => slv M A a q.2 q.1)[k]? = some (slv M A a k q) := by
  rw [List.getElem?_map, List.getElem?_zipIdx, hk]
  simp
theorem cel_set {c n : Nat} {cs : List (Nat × Nat)} {k : Nat} {v : Int} (hk : cs[k]? = some (0, 0)) : cO c ((cs.zipIdx.map fun q => slv M A a q.2 q.1).set k (vI v)) = celS (mU M a k v) A a (2, c, n, cs) := by
  show cO c _ = cO c _
  refine congrArg (cO c) (List.ext_getElem? fun j => ?_)
  have hlen : (cs.zipIdx.map fun q => slv M A a q.2 q.1).length = cs.length := by simp
  have hkl : k < cs.length := (List.getElem?_eq_some_iff.mp hk).1
  by_cases e : j = k
  · subst e
    rw [List.getElem?_set_self (by rw [hlen]; exact hkl), cel_fld hk]
    show some (vI v) = some (vI (mU M a j v a j))
    rw [mU_eq]
    show _ = some (vI (if j = j then v else M a j))
    rw [if_pos rfl]
  · rw [List.getElem?_set_ne (Ne.symm e), List.getElem?_map, List.getElem?_map]
    cases hx : cs.zipIdx[j]? with
    | none => rfl
    | some q =>
      have hq : q.2 = j := by
        rw [List.getElem?_zipIdx] at hx
        cases hy : cs[j]? with
        | none => rw [hy] at hx; cases hx
        | some w => rw [hy] at hx; cases hx; simp
      show some (slv M A a q.2 q.1) = some (slv (mU M a k v) A a q.2 q.1)
      have hu : mU M a k v a q.2 = M a q.2 := by
        rw [mU_eq]
        show (if q.2 = k then v else M a q.2) = _
        rw [if_neg (by rw [hq]; exact e)]
      simp only [slv, hu]
end RepRows
section Steps1
variable {d m pc len n : Nat} {ls st ls' st' : List AV} {h h' : AH} {i : Instr}
theorem ex1_pu (hd : decode (mC m) pc = .ok (i, len)) (hn : lnO i len = true) (hp : pu i ls st = some (ls', st')) : exec (n + 1) d m pc ls st h = exec n d m (pc + len) ls' st' h := by
  show stp (exec n) d m pc ls st h = _
  unfold stp
  rw [hd]
  simp only [hn, Bool.true_eq_false, if_false, hp]
theorem ex1_br {pc' : Nat} (hd : decode (mC m) pc = .ok (i, len)) (hn : lnO i len = true) (h1 : pu i ls st = none) (hp : br i pc st = some (pc', st')) (hx : nxt st = true) : exec (n + 1) d m pc ls st h = exec n d m pc' ls st' h := by
  show stp (exec n) d m pc ls st h = _
  unfold stp
  rw [hd]
  simp only [hn, Bool.true_eq_false, if_false, hp, h1, hx, cond_true]
theorem ex1_hp (hd : decode (mC m) pc = .ok (i, len)) (hn : lnO i len = true) (h1 : pu i ls st = none) (h2 : br i pc st = none) (hp : hp m i st h = some (st', h')) : exec (n + 1) d m pc ls st h = exec n d m (pc + len) ls st' h' := by
  show stp (exec n) d m pc ls st h = _
  unfold stp
  rw [hd]
  simp only [hn, Bool.true_eq_false, if_false, hp, h1, h2]
theorem ex1_ctl (hd : decode (mC m) pc = .ok (i, len)) (hn : lnO i len = true) (h1 : pu i ls st = none) (h2 : br i pc st = none) (h3 : hp m i st h = none) : exec (n + 1) d m pc ls st h = ctl (exec n) d m pc i ls st h := by
  show stp (exec n) d m pc ls st h = _
  unfold stp
  rw [hd]
  simp only [hn, Bool.true_eq_false, if_false, h1, h2, h3]
end Steps1
section ExRows
variable {Z : Nat × (Nat → Int)} {d m pc : Nat} {ls st : List AV} {M : MM} {res : AR × MM} {A a : Nat}
theorem EX.go {M' : MM} {pc' : Nat} {ls' st' : List AV} (h17 : M 0 17 ≠ 0 → M' 0 17 = M 0 17) (hs : ∀ h, Rep Z M h → ∃ h1, Rep Z M' h1 ∧ ∀ n, exec (n + 1) d m pc ls st h = exec n d m pc' ls' st' h1) (k : EX Z d m pc' ls' st' M' res) : EX Z d m pc ls st M res := by
  refine ⟨fun h => (k.1 (by rw [h17 h]; exact h)).trans (h17 h), fun h hR => ?_⟩
  obtain ⟨h1, hR1, hs1⟩ := hs h hR
  obtain ⟨n, h', e, r⟩ := k.2 h1 hR1
  exact ⟨n + 1, h', by rw [hs1]; exact e, r⟩
theorem EX.same {pc' : Nat} {ls' st' : List AV} (hs : ∀ n h, Rep Z M h → exec (n + 1) d m pc ls st h = exec n d m pc' ls' st' h) (k : EX Z d m pc' ls' st' M res) : EX Z d m pc ls st M res := EX.go (fun _ => rfl) (fun h hR => ⟨h, hR, fun n => hs n h hR⟩) k
theorem EX.end (r : AR) (hs : ∀ n h, exec (n + 1) d m pc ls st h = some (r, h)) (hf : some (r, M) = some res) : EX Z d m pc ls st M res := by
  cases hf
  exact ⟨fun _ => rfl, fun h hR => ⟨1, h, hs 0 h, hR⟩⟩
/-- the instructions of a method, by their places in a list -/
def dcs (c : ByteArray) (L : List (Nat × Instr × Nat)) : Prop := ∀ q ∈ L, decode c q.1 = .ok q.2
theorem dg {c : ByteArray} {L : List (Nat × Instr × Nat)} {pc len : Nat} {i : Instr} (h : dcs c L) (k : Nat) (hk : L[k]? = some (pc, i, len)) : decode c pc = .ok (i, len) := by
  have e := h (pc, i, len) (List.mem_of_getElem? hk)
  dsimp only at e
  exact e
theorem ex_pu {i : Instr} {len : Nat} {ls' st' : List AV} (hd : decode (mC m) pc = .ok (i, len)) (hn : lnO i len = true) (hp : pu i ls st = some (ls', st')) (k : EX Z d m (pc + len) ls' st' M res) : EX Z d m pc ls st M res := EX.same (fun _ _ _ => ex1_pu hd hn hp) k
theorem ex_goto {off : Int} {t : Nat} (hd : decode (mC m) pc = .ok (.goto off, 3)) (ht : (pc : Int) + off = (t : Int)) (hx : nxt st = true) (k : EX Z d m t ls st M res) : EX Z d m pc ls st M res := by
  refine EX.same (fun _ _ _ => ex1_br (pc' := t) hd rfl rfl ?_ hx) k
  show (if 0 ≤ (pc : Int) + off then some (tg pc off, st) else none) = _
  rw [if_pos (by omega)]
  unfold tg
  rw [ht]
  rfl
theorem ex_icmp {c : ClassFile.Cond} {off x y : Int} {t : Nat} {A9 B9 : Option (AR × MM)} (hd : decode (mC m) pc = .ok (.if_icmp c off, 3)) (ht : (pc : Int) + off = (t : Int)) (hf : (bif cmpB c x y then A9 else B9) = some res) (k1 : cmpB c x y = true → A9 = some res → EX Z d m t ls st M res) (k2 : cmpB c x y = false → B9 = some res → EX Z d m (pc + 3) ls st M res) : EX Z d m pc ls (vI y :: vI x :: st) M res := by
  have hb : br (.if_icmp c off) pc (vI y :: vI x :: st) = some (bif cmpB c x y then t else pc + 3, st) := by
    show (if 0 ≤ (pc : Int) + off then some (bif cmpB c x y then tg pc off else pc + 3, st) else none) = _
    rw [if_pos (by omega)]
    unfold tg
    rw [ht]
    rfl
  cases hc : cmpB c x y with
  | true =>
    rw [hc] at hb hf
    exact EX.same (fun _ _ _ => ex1_br hd rfl rfl hb rfl) (k1 hc hf)
  | false =>
    rw [hc] at hb hf
    exact EX.same (fun _ _ _ => ex1_br hd rfl rfl hb rfl) (k2 hc hf)
theorem ex_if {c : ClassFile.Cond} {off x : Int} {t : Nat} {A9 B9 : Option (AR × MM)} (hd : decode (mC m) pc = .ok (.ifCond c off, 3)) (ht : (pc : Int) + off = (t : Int)) (hf : (bif cmpB c x 0 then A9 else B9) = some res) (k1 : cmpB c x 0 = true → A9 = some res → EX Z d m t ls st M res) (k2 : cmpB c x 0 = false → B9 = some res → EX Z d m (pc + 3) ls st M res) : EX Z d m pc ls (vI x :: st) M res := by
  have hb : br (.ifCond c off) pc (vI x :: st) = some (bif cmpB c x 0 then t else pc + 3, st) := by
    show (if 0 ≤ (pc : Int) + off then some (bif cmpB c x 0 then tg pc off else pc + 3, st) else none) = _
    rw [if_pos (by omega)]
    unfold tg
    rw [ht]
    rfl
  cases hc : cmpB c x 0 with
  | true =>
    rw [hc] at hb hf
    exact EX.same (fun _ _ _ => ex1_br hd rfl rfl hb rfl) (k1 hc hf)
  | false =>
    rw [hc] at hb hf
    exact EX.same (fun _ _ _ => ex1_br hd rfl rfl hb rfl) (k2 hc hf)
/-- a branch whose answer is known when the text is written -/
theorem ex_if0 {c : ClassFile.Cond} {off x : Int} {b : Bool} {t : Nat} (hd : decode (mC m) pc = .ok (.ifCond c off, 3)) (ht : (pc : Int) + off = (t : Int)) (hc : cmpB c x 0 = b) (k1 : EX Z d m (bif b then t else pc + 3) ls st M res) : EX Z d m pc ls (vI x :: st) M res := by
  have hb : br (.ifCond c off) pc (vI x :: st) = some (bif b then t else pc + 3, st) := by
    show (if 0 ≤ (pc : Int) + off then some (bif cmpB c x 0 then tg pc off else pc + 3, st) else none) = _
    rw [if_pos (by omega), hc]
    unfold tg
    rw [ht]
    rfl
  exact EX.same (fun _ _ _ => ex1_br hd rfl rfl hb rfl) k1
-- a null or not
theorem ex_nonnull {off : Int} {t : Nat} (hd : decode (mC m) pc = .ok (.ifnonnull off, 3)) (ht : (pc : Int) + off = (t : Int)) (hA : A < E0) (k : EX Z d m t ls st M res) : EX Z d m pc ls (vR A :: st) M res := by
  refine EX.same (fun _ _ _ => ex1_br (pc' := t) (st' := st) hd rfl rfl ?_ (decide_eq_true hA)) k
  show (if 0 ≤ (pc : Int) + off then some (tg pc off, st) else none) = _
  rw [if_pos (by omega)]
  unfold tg
  rw [ht]
  rfl
theorem ex_isnull {off : Int} (hd : decode (mC m) pc = .ok (.ifnonnull off, 3)) (k : EX Z d m (pc + 3) ls st M res) : EX Z d m pc ls (vN :: st) M res := EX.same (fun _ _ _ => ex1_br (pc' := pc + 3) (st' := st) hd rfl rfl rfl rfl) k
-- a switch
theorem w32i {z j : Int} (h : cmpB .eq z j = true) : w32 z = w32 j := of_decide_eq_true h
theorem ex_tsw {dflt lo hi off z j : Int} {offs : Array Int} {len t : Nat} (hd : decode (mC m) pc = .ok (.tableswitch dflt lo hi offs, len)) (hz : cmpB .eq z j = true) (hj : w32 j = j) (hs : swt lo offs dflt hi j = off) (hb : lo ≤ j ∧ j ≤ hi ∧ (j - lo).toNat < offs.size) (ht : (pc : Int) + off = (t : Int)) (k : EX Z d m t ls st M res) : EX Z d m pc ls (vI z :: st) M res := by
  have e : w32 z = j := (w32i hz).trans hj
  refine EX.same (fun _ _ _ => ex1_br (pc' := t) (st' := st) hd rfl rfl ?_ rfl) k
  show (if (lo ≤ w32 z → w32 z ≤ hi → (w32 z - lo).toNat < offs.size) ∧ 0 ≤ (pc : Int) + swt lo offs dflt hi (w32 z) then some (tg pc (swt lo offs dflt hi (w32 z)), st) else none) = _
  rw [e, hs, if_pos ⟨fun _ _ => hb.2.2, by omega⟩]
  unfold tg
  rw [ht]
  rfl
theorem ex_tsd {dflt lo hi z : Int} {offs : Array Int} {len t : Nat} (hd : decode (mC m) pc = .ok (.tableswitch dflt lo hi offs, len)) (hz : w32 z < lo ∨ hi < w32 z) (ht : (pc : Int) + dflt = (t : Int)) (k : EX Z d m t ls st M res) : EX Z d m pc ls (vI z :: st) M res := by
  refine EX.same (fun _ _ _ => ex1_br (pc' := t) (st' := st) hd rfl rfl ?_ rfl) k
  show (if (lo ≤ w32 z → w32 z ≤ hi → (w32 z - lo).toNat < offs.size) ∧ 0 ≤ (pc : Int) + swt lo offs dflt hi (w32 z) then some (tg pc (swt lo offs dflt hi (w32 z)), st) else none) = _
  have e : swt lo offs dflt hi (w32 z) = dflt := by
    unfold swt
    rcases hz with h | h
    · rw [if_pos h]
    · by_cases h2 : w32 z < lo
      · rw [if_pos h2]
      · rw [if_neg h2, if_pos h]
  rw [e, if_pos ⟨fun _ _ => by omega, by omega⟩]
  unfold tg
  rw [ht]
  rfl
end ExRows
