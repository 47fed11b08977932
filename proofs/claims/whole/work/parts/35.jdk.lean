/-! ===== THE JDK's OWN: a row filled, a text's length, a text's sign ===== -/
def jdk_fill (a n : Nat) (v : Int) (M : MM) : OR := some (rV, mV M a (fun j => if j < n then v else M a j))
def jdk_length (t : Nat) (M : MM) : OR := some (rI ((stN.getD t 0 : Nat) : Int), M)
def jdk_charAt (t : Nat) (i : Int) (M : MM) : OR := bif inB i (stN.getD t 0) then some (rI ((stB.getD t []).getD i.toNat 0).toInt, M) else none
def il301 : List (Nat × Instr × Nat) := [(0, .iconst 0, 1), (1, .istore_n 2, 1), (2, .aload_n 0, 1), (3, .arraylength, 1), (4, .istore_n 3, 1), (5, .iload_n 2, 1), (6, .iload_n 3, 1), (7, .if_icmp .ge 13, 3), (10, .aload_n 0, 1), (11, .iload_n 2, 1), (12, .iload_n 1, 1), (13, .iastore, 1), (14, .iinc 2 1, 3), (17, .goto (-12), 3), (20, .return_, 1)]
theorem dc301 : dcs (mC 301) il301 := dc_of (by decide +kernel)
theorem w32_of {z : Int} (h1 : -2147483648 ≤ z) (h2 : z < 2147483648) : w32 z = z := Int32.toInt_ofInt_of_le h1 (by omega)
theorem cmp_ge {a b : Int} (ha : -2147483648 ≤ a ∧ a < 2147483648) (hb : -2147483648 ≤ b ∧ b < 2147483648) : cmpB .ge a b = decide (b ≤ a) := by
  show decide (w32 b ≤ w32 a) = _
  rw [w32_of ha.1 ha.2, w32_of hb.1 hb.2]
theorem mU_mU {M : MM} {a k : Nat} {v : Int} {f : Nat → Int} : mU (mV M a f) a k v = mV M a (up f k v) := by
  funext b
  unfold mU mV
  by_cases h : b = a
  · rw [if_pos h, if_pos h, if_pos rfl]
  · rw [if_neg h, if_neg h, if_neg h]
theorem mV_self {M : MM} {a : Nat} {f : Nat → Int} (h : f = M a) : mV M a f = M := by
  funext b
  unfold mV
  by_cases e : b = a
  · rw [if_pos e, h, e]
  · rw [if_neg e]
theorem jdk_fill_ok {Z : Nat × (Nat → Int)} {d : Nat} {M : MM} {A a n : Nat} {cs : List (Nat × Nat)} {v : Int} {res : AR × MM} (hL : LOC M A a (0, 0, n, cs)) (h0 : a ≠ 0) (hn : n.blt 2147483648 = true) (hf : jdk_fill a n v M = some res) : EX Z d 301 0 (ent 301 [vR A, vI v]) [] M res := by
  unfold jdk_fill at hf
  show EX Z d 301 0 [vR A, vI v, vU, vU] [] M res
  refine ex_pu (ls' := [vR A, vI v, vU, vU]) (st' := [vI 0]) (dg dc301 0 rfl) rfl rfl ?_
  refine ex_pu (ls' := [vR A, vI v, vI 0, vU]) (st' := []) (dg dc301 1 rfl) rfl rfl ?_
  refine ex_pu (ls' := [vR A, vI v, vI 0, vU]) (st' := [vR A]) (dg dc301 2 rfl) rfl rfl ?_
  refine ex_len (dg dc301 3 rfl) hL hn rfl ?_
  refine ex_pu (ls' := [vR A, vI v, vI 0, vI n]) (st' := []) (dg dc301 4 rfl) rfl rfl ?_
  have hn9 : n < 2147483648 := blt_ok hn
  have key : ∀ (k i : Nat) (M1 : MM), k + i = n → M1 = mV M a (fun j => if j < i then v else M a j) → EX Z d 301 5 [vR A, vI v, vI (i : Int), vI (n : Int)] [] M1 res := by
    intro k
    induction k with
    | zero =>
      intro i M1 hk hM
      have hi : i = n := by omega
      subst hi
      subst hM
      refine ex_pu (ls' := [vR A, vI v, vI i, vI i]) (st' := [vI i]) (dg dc301 5 rfl) rfl rfl ?_
      refine ex_pu (ls' := [vR A, vI v, vI i, vI i]) (st' := [vI i, vI i]) (dg dc301 6 rfl) rfl rfl ?_
      have hc : cmpB .ge (i : Int) (i : Int) = true := by rw [cmp_ge (by omega) (by omega)]; exact decide_eq_true (Int.le_refl _)
      refine ex_icmp (t := 20) (A9 := some (rV, _)) (B9 := none) (dg dc301 7 rfl) rfl (by rw [hc]; exact hf) (fun _ hf => ?_) (fun h _ => by rw [hc] at h; cases h)
      exact ex_vre (dg dc301 14 rfl) rfl hf
    | succ k ih =>
      intro i M1 hk hM
      refine ex_pu (ls' := [vR A, vI v, vI i, vI n]) (st' := [vI i]) (dg dc301 5 rfl) rfl rfl ?_
      refine ex_pu (ls' := [vR A, vI v, vI i, vI n]) (st' := [vI n, vI i]) (dg dc301 6 rfl) rfl rfl ?_
      have hc : cmpB .ge (i : Int) (n : Int) = false := by rw [cmp_ge (by omega) (by omega)]; exact decide_eq_false (by omega)
      refine ex_icmp (t := 20) (A9 := none) (B9 := some res) (dg dc301 7 rfl) rfl (by rw [hc]; rfl) (fun _ hf => by cases hf) (fun _ _ => ?_)
      refine ex_pu (ls' := [vR A, vI v, vI i, vI n]) (st' := [vR A]) (dg dc301 8 rfl) rfl rfl ?_
      refine ex_pu (ls' := [vR A, vI v, vI i, vI n]) (st' := [vI i, vR A]) (dg dc301 9 rfl) rfl rfl ?_
      refine ex_pu (ls' := [vR A, vI v, vI i, vI n]) (st' := [vI v, vI i, vR A]) (dg dc301 10 rfl) rfl rfl ?_
      have h17 : M1 0 17 = M 0 17 := by rw [hM, mV_ne (Ne.symm h0)]
      have hb : inB (i : Int) n = true := by
        unfold inB
        simp only [Bool.and_eq_true, decide_eq_true_eq]
        omega
      refine ex_iast (T9 := some res) (dg dc301 11 rfl) ((LOC_congr h17).mpr hL) hn (ne17 (Ne.symm h0)) (by rw [hb]; rfl) (fun _ _ => ?_)
      refine ex_pu (ls' := [vR A, vI v, vI ((i : Int) + 1), vI n]) (st' := []) (dg dc301 12 rfl) rfl rfl ?_
      refine ex_goto (t := 5) (dg dc301 13 rfl) rfl rfl ?_
      refine ih (i + 1) _ (by omega) ?_
      rw [hM, mU_mU]
      refine congrArg (mV M a) (funext fun j => ?_)
      show (if j = (i : Int).toNat then v else if j < i then v else M a j) = if j < i + 1 then v else M a j
      rw [Int.toNat_natCast]
      by_cases h1 : j = i
      · rw [if_pos h1, if_pos (by omega)]
      · rw [if_neg h1]
        by_cases h2 : j < i
        · rw [if_pos h2, if_pos (by omega)]
        · rw [if_neg h2, if_neg (by omega)]
  exact key n 0 M (by omega) (mV_self (funext fun j => if_neg (Nat.not_lt_zero j))).symm
-- texts
section TxtRows
variable {Z : Nat × (Nat → Int)} {d m pc : Nat} {ls st : List AV} {M : MM} {res : AR × MM} {t x b : Nat} {z : Int}
theorem ex_getTV (ht : t < 79) (hd : decode (mC m) pc = .ok (.getfield x, 3)) (hp : pl (mK m) x = (0, 50, 0, z)) (kk : EX Z d m (pc + 3) ls (vR (E0 + 3 + 2 * t) :: st) M res) : EX Z d m pc ls (vR (E0 + 2 + 2 * t) :: st) M res := by
  refine EX.same (fun _ h hR => ex1_hp (h' := h) (st' := vR (E0 + 3 + 2 * t) :: st) hd rfl rfl rfl ?_) kk
  have hE : E0 ≤ E0 + 2 + 2 * t := by omega
  have hg : gt h (E0 + 2 + 2 * t) = cO 50 [vR (E0 + 3 + 2 * t), vI 0] := (hR.2.2.2.2.2 _ hE).trans (xc_str ht)
  show (match pl (mK m) x with
    | (0, c, k, _) => hGet c k (vR (E0 + 2 + 2 * t) :: st) h
    | _ => none) = _
  rw [hp]
  show (if E0 + 2 + 2 * t < h.1 ∨ E0 ≤ E0 + 2 + 2 * t then (match gt h (E0 + 2 + 2 * t) with
    | .inr (.inr (c', fs)) => if c' = 50 then (match fs[0]? with
      | some v => some (v :: st, h)
      | none => none) else none
    | _ => none) else none) = _
  rw [if_pos (Or.inr hE), hg]
  exact if_pos rfl
theorem ex_getTC (ht : t < 79) (hd : decode (mC m) pc = .ok (.getfield x, 3)) (hp : pl (mK m) x = (0, 50, 1, z)) (kk : EX Z d m (pc + 3) ls (vI 0 :: st) M res) : EX Z d m pc ls (vR (E0 + 2 + 2 * t) :: st) M res := by
  refine EX.same (fun _ h hR => ex1_hp (h' := h) (st' := vI 0 :: st) hd rfl rfl rfl ?_) kk
  have hE : E0 ≤ E0 + 2 + 2 * t := by omega
  have hg : gt h (E0 + 2 + 2 * t) = cO 50 [vR (E0 + 3 + 2 * t), vI 0] := (hR.2.2.2.2.2 _ hE).trans (xc_str ht)
  show (match pl (mK m) x with
    | (0, c, k, _) => hGet c k (vR (E0 + 2 + 2 * t) :: st) h
    | _ => none) = _
  rw [hp]
  show (if E0 + 2 + 2 * t < h.1 ∨ E0 ≤ E0 + 2 + 2 * t then (match gt h (E0 + 2 + 2 * t) with
    | .inr (.inr (c', fs)) => if c' = 50 then (match fs[1]? with
      | some v => some (v :: st, h)
      | none => none) else none
    | _ => none) else none) = _
  rw [if_pos (Or.inr hE), hg]
  exact if_pos rfl
theorem stN_lt : ∀ t < 79, stN.getD t 0 < 100 := by decide +kernel
theorem ex_lenT (ht : t < 79) (hd : decode (mC m) pc = .ok (.arraylength, 1)) (kk : EX Z d m (pc + 1) ls (vI ((stN.getD t 0 : Nat) : Int) :: st) M res) : EX Z d m pc ls (vR (E0 + 3 + 2 * t) :: st) M res := by
  refine EX.same (fun _ h hR => ex1_hp (h' := h) (st' := vI ((stN.getD t 0 : Nat) : Int) :: st) hd rfl rfl rfl ?_) kk
  have hE : E0 ≤ E0 + 3 + 2 * t := by omega
  have hg := (hR.2.2.2.2.2 _ hE).trans (xc_byt (Z := Z) ht)
  show (if E0 + 3 + 2 * t < h.1 ∨ E0 ≤ E0 + 3 + 2 * t then (match gt h (E0 + 3 + 2 * t) with
    | .inl (k9, n9, _) => if k9 < 4 ∧ n9 < 2147483648 then some (vI n9 :: st, h) else none
    | _ => none) else none) = _
  rw [if_pos (Or.inr hE), hg]
  exact if_pos ⟨by decide, Nat.lt_trans (stN_lt t ht) (by decide)⟩
theorem ex_baldT {i : Int} (ht : t < 79) (hi : inB i (stN.getD t 0) = true) (hd : decode (mC m) pc = .ok (.baload, 1)) (kk : EX Z d m (pc + 1) ls (vI ((stB.getD t []).getD i.toNat 0).toInt :: st) M res) : EX Z d m pc ls (vI i :: vR (E0 + 3 + 2 * t) :: st) M res := by
  refine EX.same (fun _ h hR => ex1_hp (h' := h) (st' := vI ((stB.getD t []).getD i.toNat 0).toInt :: st) hd rfl rfl rfl ?_) kk
  have hE : E0 ≤ E0 + 3 + 2 * t := by omega
  have hg := (hR.2.2.2.2.2 _ hE).trans (xc_byt (Z := Z) ht)
  obtain ⟨i0, i1⟩ := inB_ok hi
  show (match gt h (E0 + 3 + 2 * t) with
    | .inl (2, _, _) => hLd 2 (vI i :: vR (E0 + 3 + 2 * t) :: st) h
    | .inl (3, _, _) => if E0 + 3 + 2 * t < h.1 then hLd 3 (vI i :: vR (E0 + 3 + 2 * t) :: st) h else none
    | _ => none) = _
  rw [hg]
  show (if E0 + 3 + 2 * t < h.1 ∨ E0 ≤ E0 + 3 + 2 * t then (match gt h (E0 + 3 + 2 * t) with
    | .inl (k9, n9, f) => if k9 = 2 ∧ 0 ≤ i ∧ i.toNat < n9 ∧ n9 < 2147483648 then some ((if 2 = 1 then vJ (f i.toNat) else vI (f i.toNat)) :: st, h) else none
    | _ => none) else none) = _
  rw [if_pos (Or.inr hE), hg]
  exact if_pos ⟨rfl, i0, i1, Nat.lt_trans (stN_lt t ht) (by decide)⟩
theorem ex_gst0 (hd : decode (mC m) pc = .ok (.getstatic x, 3)) (hp : pl (mK m) x = (7, 0, b, z)) (kk : EX Z d m (pc + 3) ls (vI 1 :: st) M res) : EX Z d m pc ls st M res := by
  refine EX.same (fun _ h hR => ex1_hp (h' := h) (st' := vI 1 :: st) hd rfl rfl rfl ?_) kk
  show (match pl (mK m) x with
    | (7, 0, _, _) => some (vI 1 :: st, h)
    | (7, 1, _, _) => some (vR (E0 + 1) :: st, h)
    | _ => none) = _
  rw [hp]
  rfl
theorem ex_gst1 (hd : decode (mC m) pc = .ok (.getstatic x, 3)) (hp : pl (mK m) x = (7, 1, b, z)) (kk : EX Z d m (pc + 3) ls (vR (E0 + 1) :: st) M res) : EX Z d m pc ls st M res := by
  refine EX.same (fun _ h hR => ex1_hp (h' := h) (st' := vR (E0 + 1) :: st) hd rfl rfl rfl ?_) kk
  show (match pl (mK m) x with
    | (7, 0, _, _) => some (vI 1 :: st, h)
    | (7, 1, _, _) => some (vR (E0 + 1) :: st, h)
    | _ => none) = _
  rw [hp]
  rfl
end TxtRows
def il297 : List (Nat × Instr × Nat) := [(0, .getstatic 38, 3), (3, .ifCond .eq 10, 3), (6, .aload_n 0, 1), (7, .getfield 15, 3), (10, .goto 4, 3), (13, .iconst 1, 1), (14, .ireturn, 1)]
theorem dc297 : dcs (mC 297) il297 := dc_of (by decide +kernel)
def il298 : List (Nat × Instr × Nat) := [(0, .getstatic 38, 3), (3, .ifCond .eq 14, 3), (6, .aload_n 0, 1), (7, .getfield 15, 3), (10, .ifCond .ne 7, 3), (13, .iconst 1, 1), (14, .goto 4, 3), (17, .iconst 0, 1), (18, .ireturn, 1)]
theorem dc298 : dcs (mC 298) il298 := dc_of (by decide +kernel)
def il299 : List (Nat × Instr × Nat) := [(0, .iload_n 0, 1), (1, .iload_n 1, 1), (2, .getstatic 1053, 3), (5, .invokestatic 1059, 3), (8, .pop, 1), (9, .return_, 1)]
theorem dc299 : dcs (mC 299) il299 := dc_of (by decide +kernel)
def il302 : List (Nat × Instr × Nat) := [(0, .iload_n 0, 1), (1, .ifCond .lt 8, 3), (4, .iload_n 0, 1), (5, .iload_n 1, 1), (6, .if_icmp .lt 10, 3), (16, .iload_n 0, 1), (17, .ireturn, 1)]
theorem dc302 : dcs (mC 302) il302 := dc_of (by decide +kernel)
def il300 : List (Nat × Instr × Nat) := [(0, .iload_n 1, 1), (1, .aload_n 0, 1), (2, .arraylength, 1), (3, .invokestatic 9, 3), (6, .aload_n 0, 1), (7, .iload_n 1, 1), (8, .baload, 1), (9, .sipush 255, 3), (12, .iand, 1), (13, .i2c, 1), (14, .ireturn, 1)]
theorem dc300 : dcs (mC 300) il300 := dc_of (by decide +kernel)
def il296 : List (Nat × Instr × Nat) := [(0, .aload_n 0, 1), (1, .invokevirtual 492, 3), (4, .ifCond .eq 12, 3), (7, .aload_n 0, 1), (8, .getfield 9, 3), (11, .iload_n 1, 1), (12, .invokestatic 495, 3), (15, .ireturn, 1)]
theorem dc296 : dcs (mC 296) il296 := dc_of (by decide +kernel)
def il295' : List (Nat × Instr × Nat) := [(0, .aload_n 0, 1), (1, .getfield 9, 3), (4, .arraylength, 1), (5, .aload_n 0, 1), (6, .invokevirtual 335, 3), (9, .ishr, 1), (10, .ireturn, 1)]
theorem dc295 : dcs (mC 295) il295' := dc_of (by decide +kernel)
section TxtRuns
variable {Z : Nat × (Nat → Int)} {d : Nat} {M : MM} {t : Nat}
theorem coder_ok (ht : t < 79) : EX Z d 297 0 (ent 297 [vR (E0 + 2 + 2 * t)]) [] M (rI 0, M) := by
  show EX Z d 297 0 [vR (E0 + 2 + 2 * t)] [] M _
  refine ex_gst0 (dg dc297 0 rfl) rfl ?_
  refine ex_if0 (b := false) (t := 13) (dg dc297 1 rfl) rfl rfl ?_
  show EX Z _ 297 6 _ _ _ _
  refine ex_pu (ls' := [vR (E0 + 2 + 2 * t)]) (st' := [vR (E0 + 2 + 2 * t)]) (dg dc297 2 rfl) rfl rfl ?_
  refine ex_getTC ht (dg dc297 3 rfl) rfl ?_
  refine ex_goto (t := 14) (dg dc297 4 rfl) rfl rfl ?_
  exact ex_ire (dg dc297 6 rfl) rfl rfl
theorem isLatin1_ok (ht : t < 79) : EX Z d 298 0 (ent 298 [vR (E0 + 2 + 2 * t)]) [] M (rI 1, M) := by
  show EX Z d 298 0 [vR (E0 + 2 + 2 * t)] [] M _
  refine ex_gst0 (dg dc298 0 rfl) rfl ?_
  refine ex_if0 (b := false) (t := 17) (dg dc298 1 rfl) rfl rfl ?_
  show EX Z _ 298 6 _ _ _ _
  refine ex_pu (ls' := [vR (E0 + 2 + 2 * t)]) (st' := [vR (E0 + 2 + 2 * t)]) (dg dc298 2 rfl) rfl rfl ?_
  refine ex_getTC ht (dg dc298 3 rfl) rfl ?_
  refine ex_if0 (b := false) (t := 17) (dg dc298 4 rfl) rfl rfl ?_
  show EX Z _ 298 13 _ _ _ _
  refine ex_pu (ls' := [vR (E0 + 2 + 2 * t)]) (st' := [vI 1]) (dg dc298 5 rfl) rfl rfl ?_
  refine ex_goto (t := 18) (dg dc298 6 rfl) rfl rfl ?_
  exact ex_ire (dg dc298 8 rfl) rfl rfl
theorem cmp_lt {a b : Int} (ha : -2147483648 ≤ a ∧ a < 2147483648) (hb : -2147483648 ≤ b ∧ b < 2147483648) : cmpB .lt a b = decide (a < b) := by
  show decide (w32 a < w32 b) = _
  rw [w32_of ha.1 ha.2, w32_of hb.1 hb.2]
theorem check0_ok {i : Int} {k : Nat} (hk : k < 100) (hi : inB i k = true) : EX Z d 302 0 (ent 302 [vI i, vI (k : Int), vR (E0 + 1)]) [] M (rI i, M) := by
  obtain ⟨i0, i1⟩ := inB_ok hi
  show EX Z d 302 0 [vI i, vI (k : Int), vR (E0 + 1)] [] M _
  refine ex_pu (ls' := [vI i, vI (k : Int), vR (E0 + 1)]) (st' := [vI i]) (dg dc302 0 rfl) rfl rfl ?_
  have c1 : cmpB .lt i 0 = false := by rw [cmp_lt (by omega) (by omega)]; exact decide_eq_false (by omega)
  refine ex_if (t := 9) (A9 := none) (B9 := some (rI i, M)) (dg dc302 1 rfl) rfl (by rw [c1]; rfl) (fun _ hf => by cases hf) (fun _ _ => ?_)
  refine ex_pu (ls' := [vI i, vI (k : Int), vR (E0 + 1)]) (st' := [vI i]) (dg dc302 2 rfl) rfl rfl ?_
  refine ex_pu (ls' := [vI i, vI (k : Int), vR (E0 + 1)]) (st' := [vI (k : Int), vI i]) (dg dc302 3 rfl) rfl rfl ?_
  have c2 : cmpB .lt i (k : Int) = true := by rw [cmp_lt (by omega) (by omega)]; exact decide_eq_true (by omega)
  refine ex_icmp (t := 16) (A9 := some (rI i, M)) (B9 := none) (dg dc302 4 rfl) rfl (by rw [c2]; rfl) (fun _ _ => ?_) (fun _ hf => by cases hf)
  refine ex_pu (ls' := [vI i, vI (k : Int), vR (E0 + 1)]) (st' := [vI i]) (dg dc302 5 rfl) rfl rfl ?_
  exact ex_ire (dg dc302 6 rfl) rfl rfl
theorem check1_ok {i : Int} {k : Nat} (hk : k < 100) (hi : inB i k = true) : EX Z (d + 1) 299 0 (ent 299 [vI i, vI (k : Int)]) [] M (rV, M) := by
  show EX Z (d + 1) 299 0 [vI i, vI (k : Int)] [] M _
  refine ex_pu (ls' := [vI i, vI (k : Int)]) (st' := [vI i]) (dg dc299 0 rfl) rfl rfl ?_
  refine ex_pu (ls' := [vI i, vI (k : Int)]) (st' := [vI (k : Int), vI i]) (dg dc299 1 rfl) rfl rfl ?_
  refine ex_gst1 (dg dc299 2 rfl) rfl ?_
  refine ex_ret (vs := [vI i, vI (k : Int), vR (E0 + 1)]) (st' := []) (Or.inl ⟨rfl, dg dc299 3 rfl⟩) rfl rfl (fun _ hR => RK.calO hR rfl (Or.inl rfl)) (check0_ok hk hi) ?_
  refine ex_pu (ls' := [vI i, vI (k : Int)]) (st' := []) (dg dc299 4 rfl) rfl rfl ?_
  exact ex_vre (dg dc299 5 rfl) rfl rfl
theorem stB_ok : ∀ t < 79, ∀ i < stN.getD t 0, iC (iAnd ((stB.getD t []).getD i 0).toInt 255) = ((stB.getD t []).getD i 0).toInt ∧ retB (some .char) ((stB.getD t []).getD i 0).toInt = true := by decide +kernel
theorem charAt0_ok {i : Int} (ht : t < 79) (hi : inB i (stN.getD t 0) = true) : EX Z (d + 2) 300 0 (ent 300 [vR (E0 + 3 + 2 * t), vI i]) [] M (rI ((stB.getD t []).getD i.toNat 0).toInt, M) := by
  show EX Z (d + 2) 300 0 [vR (E0 + 3 + 2 * t), vI i] [] M _
  obtain ⟨i0, i1⟩ := inB_ok hi
  obtain ⟨e1, e2⟩ := stB_ok t ht i.toNat i1
  refine ex_pu (ls' := [vR (E0 + 3 + 2 * t), vI i]) (st' := [vI i]) (dg dc300 0 rfl) rfl rfl ?_
  refine ex_pu (ls' := [vR (E0 + 3 + 2 * t), vI i]) (st' := [vR (E0 + 3 + 2 * t), vI i]) (dg dc300 1 rfl) rfl rfl ?_
  refine ex_lenT ht (dg dc300 2 rfl) ?_
  refine ex_ret (vs := [vI i, vI ((stN.getD t 0 : Nat) : Int)]) (st' := []) (Or.inl ⟨rfl, dg dc300 3 rfl⟩) rfl rfl (fun _ hR => RK.calO hR rfl (Or.inl rfl)) (check1_ok (stN_lt t ht) hi) ?_
  refine ex_pu (ls' := [vR (E0 + 3 + 2 * t), vI i]) (st' := [vR (E0 + 3 + 2 * t)]) (dg dc300 4 rfl) rfl rfl ?_
  refine ex_pu (ls' := [vR (E0 + 3 + 2 * t), vI i]) (st' := [vI i, vR (E0 + 3 + 2 * t)]) (dg dc300 5 rfl) rfl rfl ?_
  refine ex_baldT ht hi (dg dc300 6 rfl) ?_
  refine ex_pu (ls' := [vR (E0 + 3 + 2 * t), vI i]) (st' := [vI 255, vI ((stB.getD t []).getD i.toNat 0).toInt]) (dg dc300 7 rfl) rfl rfl ?_
  refine ex_pu (ls' := [vR (E0 + 3 + 2 * t), vI i]) (st' := [vI (iAnd ((stB.getD t []).getD i.toNat 0).toInt 255)]) (dg dc300 8 rfl) rfl rfl ?_
  refine ex_pu (ls' := [vR (E0 + 3 + 2 * t), vI i]) (st' := [vI (iC (iAnd ((stB.getD t []).getD i.toNat 0).toInt 255))]) (dg dc300 9 rfl) rfl rfl ?_
  rw [e1]
  exact ex_ire (dg dc300 10 rfl) e2 rfl
theorem jdk_charAt_ok {i : Int} {res : AR × MM} (hd : 3 ≤ d) (ht : t < 79) (hf : jdk_charAt t i M = some res) : EX Z d 296 0 (ent 296 [vR (E0 + 2 + 2 * t), vI i]) [] M res := by
  obtain ⟨e9, rfl⟩ : ∃ e9, d = e9 + 3 := ⟨d - 3, by omega⟩
  unfold jdk_charAt at hf
  obtain ⟨hi, hf⟩ := gd hf
  cases hf
  obtain ⟨i0, i1⟩ := inB_ok hi
  show EX Z (e9 + 3) 296 0 [vR (E0 + 2 + 2 * t), vI i] [] M _
  refine ex_pu (ls' := [vR (E0 + 2 + 2 * t), vI i]) (st' := [vR (E0 + 2 + 2 * t)]) (dg dc296 0 rfl) rfl rfl ?_
  refine ex_ret (vs := [vR (E0 + 2 + 2 * t)]) (st' := []) (Or.inr (Or.inl ⟨rfl, dg dc296 1 rfl⟩)) rfl rfl (fun _ hR => RK.calO hR rfl (rkT ht rfl)) (isLatin1_ok ht) ?_
  refine ex_if0 (b := false) (t := 16) (dg dc296 2 rfl) rfl rfl ?_
  show EX Z _ 296 7 _ _ _ _
  refine ex_pu (ls' := [vR (E0 + 2 + 2 * t), vI i]) (st' := [vR (E0 + 2 + 2 * t)]) (dg dc296 3 rfl) rfl rfl ?_
  refine ex_getTV ht (dg dc296 4 rfl) rfl ?_
  refine ex_pu (ls' := [vR (E0 + 2 + 2 * t), vI i]) (st' := [vI i, vR (E0 + 3 + 2 * t)]) (dg dc296 5 rfl) rfl rfl ?_
  refine ex_ret (vs := [vR (E0 + 3 + 2 * t), vI i]) (st' := []) (Or.inl ⟨rfl, dg dc296 6 rfl⟩) rfl rfl (fun _ hR => RK.calO hR rfl (Or.inl rfl)) (charAt0_ok ht hi) ?_
  exact ex_ire (dg dc296 7 rfl) (stB_ok t ht i.toNat i1).2 rfl
theorem ishr0 : ∀ n < 100, iShr ((n : Nat) : Int) 0 = ((n : Nat) : Int) := by decide +kernel
theorem jdk_length_ok {res : AR × MM} (hd : 1 ≤ d) (ht : t < 79) (hf : jdk_length t M = some res) : EX Z d 295 0 (ent 295 [vR (E0 + 2 + 2 * t)]) [] M res := by
  obtain ⟨e9, rfl⟩ : ∃ e9, d = e9 + 1 := ⟨d - 1, by omega⟩
  cases hf
  show EX Z (e9 + 1) 295 0 [vR (E0 + 2 + 2 * t)] [] M _
  refine ex_pu (ls' := [vR (E0 + 2 + 2 * t)]) (st' := [vR (E0 + 2 + 2 * t)]) (dg dc295 0 rfl) rfl rfl ?_
  refine ex_getTV ht (dg dc295 1 rfl) rfl ?_
  refine ex_lenT ht (dg dc295 2 rfl) ?_
  refine ex_pu (ls' := [vR (E0 + 2 + 2 * t)]) (st' := [vR (E0 + 2 + 2 * t), vI ((stN.getD t 0 : Nat) : Int)]) (dg dc295 3 rfl) rfl rfl ?_
  refine ex_ret (vs := [vR (E0 + 2 + 2 * t)]) (st' := [vI ((stN.getD t 0 : Nat) : Int)]) (Or.inr (Or.inl ⟨rfl, dg dc295 4 rfl⟩)) rfl rfl (fun _ hR => RK.calO hR rfl (rkT ht rfl)) (coder_ok ht) ?_
  refine ex_pu (ls' := [vR (E0 + 2 + 2 * t)]) (st' := [vI (iShr ((stN.getD t 0 : Nat) : Int) 0)]) (dg dc295 5 rfl) rfl rfl ?_
  rw [ishr0 _ (stN_lt t ht)]
  exact ex_ire (dg dc295 6 rfl) rfl rfl
end TxtRuns
