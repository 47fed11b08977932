/-! ===== THE JDK's OWN: a row filled, a text's length, a text's sign ===== -/
def jdk_fill (a n : Nat) (v : Int) (M : MM) : OR := some (rV, mV M a (fun j => if j < n then v else M a j))
def jdk_length (t : Nat) (M : MM) : OR := some (rI ((stN.getD t 0 : Nat) : Int), M)
def jdk_charAt (t : Nat) (i : Int) (M : MM) : OR := bif inB i (stN.getD t 0) then some (rI ((stB.getD t []).getD i.toNat 0).toInt, M) else none
def il301 : List (Nat × Instr × Nat) := [(0, .iconst 0, 1), (1, .istore_n 2, 1), (2, .aload_n 0, 1), (3, .arraylength, 1), (4, .istore_n 3, 1), (5, .iload_n 2, 1), (6, .iload_n 3, 1), (7, .if_icmp .ge 13, 3), (10, .aload_n 0, 1), (11, .iload_n 2, 1), (12, .iload_n 1, 1), (13, .iastore, 1), (14, .iinc 2 1, 3), (17, .goto (-12), 3), (20, .return_, 1)]
theorem dc301 : dcs (mC 301) il301 := dc_of (by decide +kernel)
def il295 : List (Nat × Instr × Nat) := [(0, .aload_n 0, 1), (1, .getfield 9, 3), (4, .arraylength, 1), (5, .aload_n 0, 1), (6, .invokevirtual 227, 3), (9, .ishr, 1), (10, .ireturn, 1)]
theorem w32_of {z : Int} (h1 : -2147483648 ≤ z) (h2 : z < 2147483648) : w32 z = z := Int32.toInt_ofInt_of_le h1 (by omega)
theorem cmp_ge {a b : Int} (ha : -2147483648 ≤ a ∧ a < 2147483648) (hb : -2147483648 ≤ b ∧ b < 2147483648) : cmpB .ge a b = decide (b ≤ a) := by
  show decide (w32 b ≤ w32 a) = _
  rw [w32_of ha.1 ha.2, w32_of hb.1 hb.2]
theorem mU_mU {M : MM} {a k : Nat} {v : Int} {f : Nat → Int} : mU (mV M a f) a k v = mV M a (up f k v) := by
  funext b
  unfold mU mV
  by_cases h : b = a
  · rw [if_pos h, if_pos h, if_pos rfl]
  · rw [if_neg h, if_neg h, if_neg h]
theorem mV_self {M : MM} {a : Nat} {f : Nat → Int} (h : f = M a) : mV M a f = M := by
  funext b
  unfold mV
  by_cases e : b = a
  · rw [if_pos e, h, e]
  · rw [if_neg e]
theorem jdk_fill_ok {Z : Nat × (Nat → Int)} {d : Nat} {M : MM} {A a n : Nat} {cs : List (Nat × Nat)} {v : Int} {res : AR × MM} (hL : LOC M A a (0, 0, n, cs)) (h0 : a ≠ 0) (hn : n.blt 2147483648 = true) (hf : jdk_fill a n v M = some res) : EX Z d 301 0 (ent 301 [vR A, vI v]) [] M res := by
  unfold jdk_fill at hf
  show EX Z d 301 0 [vR A, vI v, vU, vU] [] M res
  refine ex_pu (ls' := [vR A, vI v, vU, vU]) (st' := [vI 0]) (dg dc301 0 rfl) rfl rfl ?_
  refine ex_pu (ls' := [vR A, vI v, vI 0, vU]) (st' := []) (dg dc301 1 rfl) rfl rfl ?_
  refine ex_pu (ls' := [vR A, vI v, vI 0, vU]) (st' := [vR A]) (dg dc301 2 rfl) rfl rfl ?_
  refine ex_len (dg dc301 3 rfl) hL hn rfl ?_
  refine ex_pu (ls' := [vR A, vI v, vI 0, vI n]) (st' := []) (dg dc301 4 rfl) rfl rfl ?_
  have hn9 : n < 2147483648 := blt_ok hn
  have key : ∀ (k i : Nat) (M1 : MM), k + i = n → M1 = mV M a (fun j => if j < i then v else M a j) → EX Z d 301 5 [vR A, vI v, vI (i : Int), vI (n : Int)] [] M1 res := by
    intro k
    induction k with
    | zero =>
      intro i M1 hk hM
      have hi : i = n := by omega
      subst hi
      subst hM
      refine ex_pu (ls' := [vR A, vI v, vI i, vI i]) (st' := [vI i]) (dg dc301 5 rfl) rfl rfl ?_
      refine ex_pu (ls' := [vR A, vI v, vI i, vI i]) (st' := [vI i, vI i]) (dg dc301 6 rfl) rfl rfl ?_
      have hc : cmpB .ge (i : Int) (i : Int) = true := by rw [cmp_ge (by omega) (by omega)]; exact decide_eq_true (Int.le_refl _)
      refine ex_icmp (t := 20) (A9 := some (rV, _)) (B9 := none) (dg dc301 7 rfl) rfl (by rw [hc]; exact hf) (fun _ hf => ?_) (fun h _ => by rw [hc] at h; cases h)
      exact ex_vre (dg dc301 14 rfl) rfl hf
    | succ k ih =>
      intro i M1 hk hM
      refine ex_pu (ls' := [vR A, vI v, vI i, vI n]) (st' := [vI i]) (dg dc301 5 rfl) rfl rfl ?_
      refine ex_pu (ls' := [vR A, vI v, vI i, vI n]) (st' := [vI n, vI i]) (dg dc301 6 rfl) rfl rfl ?_
      have hc : cmpB .ge (i : Int) (n : Int) = false := by rw [cmp_ge (by omega) (by omega)]; exact decide_eq_false (by omega)
      refine ex_icmp (t := 20) (A9 := none) (B9 := some res) (dg dc301 7 rfl) rfl (by rw [hc]; rfl) (fun _ hf => by cases hf) (fun _ _ => ?_)
      refine ex_pu (ls' := [vR A, vI v, vI i, vI n]) (st' := [vR A]) (dg dc301 8 rfl) rfl rfl ?_
      refine ex_pu (ls' := [vR A, vI v, vI i, vI n]) (st' := [vI i, vR A]) (dg dc301 9 rfl) rfl rfl ?_
      refine ex_pu (ls' := [vR A, vI v, vI i, vI n]) (st' := [vI v, vI i, vR A]) (dg dc301 10 rfl) rfl rfl ?_
      have h17 : M1 0 17 = M 0 17 := by rw [hM, mV_ne (Ne.symm h0)]
      have hb : inB (i : Int) n = true := by
        unfold inB
        simp only [Bool.and_eq_true, decide_eq_true_eq]
        omega
      refine ex_iast (T9 := some res) (dg dc301 11 rfl) ((LOC_congr h17).mpr hL) hn (ne17 (Ne.symm h0)) (by rw [hb]; rfl) (fun _ _ => ?_)
      refine ex_pu (ls' := [vR A, vI v, vI ((i : Int) + 1), vI n]) (st' := []) (dg dc301 12 rfl) rfl rfl ?_
      refine ex_goto (t := 5) (dg dc301 13 rfl) rfl rfl ?_
      refine ih (i + 1) _ (by omega) ?_
      rw [hM, mU_mU]
      refine congrArg (mV M a) (funext fun j => ?_)
      show (if j = (i : Int).toNat then v else if j < i then v else M a j) = if j < i + 1 then v else M a j
      rw [Int.toNat_natCast]
      by_cases h1 : j = i
      · rw [if_pos h1, if_pos (by omega)]
      · rw [if_neg h1]
        by_cases h2 : j < i
        · rw [if_pos h2, if_pos (by omega)]
        · rw [if_neg h2, if_neg (by omega)]
  exact key n 0 M (by omega) (mV_self (funext fun j => if_neg (Nat.not_lt_zero j))).symm
