/-! ===== CONSTRUCTORS: runs over a heap that is not whole yet ===== -/
def XH (d m pc : Nat) (ls st : List AV) (h : AH) (P : AR → AH → Prop) : Prop := ∃ n r h', exec n d m pc ls st h = some (r, h') ∧ P r h'
section XhRows
variable {d m pc : Nat} {ls st : List AV} {h : AH} {P : AR → AH → Prop} {A a x c k n j b y kd N : Nat} {z : Int}
theorem XH.go {pc' : Nat} {ls' st' : List AV} {h1 : AH} (hs : ∀ n, exec (n + 1) d m pc ls st h = exec n d m pc' ls' st' h1) (kk : XH d m pc' ls' st' h1 P) : XH d m pc ls st h P := by
  obtain ⟨n, r, h2, e, hp⟩ := kk
  exact ⟨n + 1, r, h2, by rw [hs]; exact e, hp⟩
theorem XH.imp {P' : AR → AH → Prop} (kk : XH d m pc ls st h P') (hi : ∀ r h1, P' r h1 → P r h1) : XH d m pc ls st h P := by
  obtain ⟨n, r, h2, e, hp⟩ := kk
  exact ⟨n, r, h2, e, hi _ _ hp⟩
theorem xh_pu {i : Instr} {len : Nat} {ls' st' : List AV} (hd : decode (mC m) pc = .ok (i, len)) (hn : lnO i len = true) (hp : pu i ls st = some (ls', st')) (kk : XH d m (pc + len) ls' st' h P) : XH d m pc ls st h P := XH.go (fun _ => ex1_pu hd hn hp) kk
theorem xh_goto {off : Int} {t : Nat} (hd : decode (mC m) pc = .ok (.goto off, 3)) (ht : (pc : Int) + off = (t : Int)) (hx : nxt st = true) (kk : XH d m t ls st h P) : XH d m pc ls st h P := by
  refine XH.go (fun _ => ex1_br (pc' := t) hd rfl rfl ?_ hx) kk
  show (if 0 ≤ (pc : Int) + off then some (tg pc off, st) else none) = _
  rw [if_pos (by omega)]
  unfold tg
  rw [ht]
  rfl
theorem xh_icmp {c : ClassFile.Cond} {off u v : Int} {b9 : Bool} {t : Nat} (hd : decode (mC m) pc = .ok (.if_icmp c off, 3)) (ht : (pc : Int) + off = (t : Int)) (hc : cmpB c u v = b9) (kk : XH d m (bif b9 then t else pc + 3) ls st h P) : XH d m pc ls (vI v :: vI u :: st) h P := by
  refine XH.go (fun _ => ex1_br hd rfl rfl ?_ rfl) kk
  show (if 0 ≤ (pc : Int) + off then some (bif cmpB c u v then tg pc off else pc + 3, st) else none) = _
  rw [if_pos (by omega), hc]
  unfold tg
  rw [ht]
  rfl
/-- two heaps that differ at one place -/
def D1 (h h1 : AH) (A : Nat) (c : AC) : Prop := h1.1 = h.1 ∧ h1.2.1 = h.2.1 ∧ gt h1 A = c ∧ ∀ B, B ≠ A → gt h1 B = gt h B
/-- one cell more, n slots -/
def D2 (h h1 : AH) (n : Nat) (c : AC) : Prop := h1.1 = h.1 + 1 ∧ h1.2.1 = h.2.1 + n ∧ gt h1 h.1 = c ∧ ∀ B, B ≠ h.1 → gt h1 B = gt h B
theorem D1.sv {c : AC} : D1 h (sv h A c) A c := ⟨rfl, rfl, if_pos rfl, fun _ hB => if_neg hB⟩
theorem D2.al {c : AC} : D2 h (al h n c) n c := ⟨rfl, rfl, if_pos rfl, fun _ hB => if_neg hB⟩
theorem xh_put {fs : List AV} {v : AV} (hd : decode (mC m) pc = .ok (.putfield x, 3)) (hp : pl (mK m) x = (0, c, k, z)) (hA : A < h.1) (hg : gt h A = cO c fs) (hk : k.blt fs.length = true) (hok : fok m c k v = true) (kk : ∀ h1, D1 h h1 A (cO c (fs.set k v)) → XH d m (pc + 3) ls st h1 P) : XH d m pc ls (v :: vR A :: st) h P := by
  refine XH.go (fun _ => ex1_hp hd rfl rfl rfl ?_) (kk _ D1.sv)
  show (match pl (mK m) x with
    | (0, c, k, _) => hPut m c k (v :: vR A :: st) h
    | _ => none) = _
  rw [hp]
  show (if A < h.1 ∧ fok m c k v = true then (match gt h A with
    | .inr (.inr (c', fs)) => if c' = c ∧ k < fs.length then some (st, sv h A (.inr (.inr (c', fs.set k v)))) else none
    | _ => none) else none) = _
  rw [if_pos ⟨hA, hok⟩, hg]
  exact if_pos ⟨rfl, blt_ok hk⟩
theorem xh_get {fs : List AV} {v : AV} (hd : decode (mC m) pc = .ok (.getfield x, 3)) (hp : pl (mK m) x = (0, c, k, z)) (hA : A < h.1) (hg : gt h A = cO c fs) (hk : fs[k]? = some v) (kk : XH d m (pc + 3) ls (v :: st) h P) : XH d m pc ls (vR A :: st) h P := by
  refine XH.go (fun _ => ex1_hp (st' := v :: st) (h' := h) hd rfl rfl rfl ?_) kk
  show (match pl (mK m) x with
    | (0, c, k, _) => hGet c k (vR A :: st) h
    | _ => none) = _
  rw [hp]
  show (if A < h.1 ∨ E0 ≤ A then (match gt h A with
    | .inr (.inr (c', fs)) => if c' = c then (match fs[k]? with
      | some v => some (v :: st, h)
      | none => none) else none
    | _ => none) else none) = _
  rw [if_pos (Or.inl hA), hg]
  show (if c = c then (match fs[k]? with
      | some v => some (v :: st, h)
      | none => none) else none) = _
  rw [if_pos rfl, hk]
theorem xh_new (hd : decode (mC m) pc = .ok (.new x, 3)) (hp : pl (mK m) x = (2, c, b, z)) (hc : c.blt 13 = true) (kk : ∀ h1, D2 h h1 (cNf.getD c 0) (cO c (fs0 c)) → XH d m (pc + 3) ls (vR h.1 :: st) h1 P) : XH d m pc ls st h P := by
  refine XH.go (fun _ => ex1_hp hd rfl rfl rfl ?_) (kk _ D2.al)
  show (match pl (mK m) x with
    | (2, c, _, _) => if c < 13 then some (vR h.1 :: st, al h (cNf.getD c 0) (.inr (.inr (c, fs0 c)))) else none
    | _ => none) = _
  rw [hp]
  exact if_pos (blt_ok hc)
theorem xh_newa {t : ArrayType} {k9 n9 : Nat} (hd : decode (mC m) pc = .ok (.newarray t, 2)) (ht : akd t = some k9) (hn : n9.ble 100000 = true) (kk : ∀ h1, D2 h h1 n9 (cA k9 n9 (fun _ => 0)) → XH d m (pc + 2) ls (vR h.1 :: st) h1 P) : XH d m pc ls (vI (n9 : Int) :: st) h P := by
  refine XH.go (fun _ => ex1_hp hd rfl rfl rfl ?_) (kk _ D2.al)
  have h9 := Nat.le_of_ble_eq_true hn
  show (match akd t with
    | some k => if 0 ≤ (n9 : Int) ∧ (n9 : Int) ≤ 100000 then some (vR h.1 :: st, al h (n9 : Int).toNat (.inl (k, (n9 : Int).toNat, fun _ => 0))) else none
    | none => none) = _
  rw [ht]
  exact if_pos ⟨by omega, by omega⟩
theorem xh_newq {n9 : Nat} (hd : decode (mC m) pc = .ok (.anewarray x, 3)) (hp : pl (mK m) x = (2, 0, b, z)) (hn : n9.ble 100000 = true) (kk : ∀ h1, D2 h h1 n9 (cQ n9 (fun _ => none)) → XH d m (pc + 3) ls (vR h.1 :: st) h1 P) : XH d m pc ls (vI (n9 : Int) :: st) h P := by
  refine XH.go (fun _ => ex1_hp hd rfl rfl rfl ?_) (kk _ D2.al)
  have h9 := Nat.le_of_ble_eq_true hn
  show (match pl (mK m) x with
    | (2, c, _, _) => hNewQ c (vI (n9 : Int) :: st) h
    | _ => none) = _
  rw [hp]
  exact if_pos ⟨rfl, by omega, by omega⟩
theorem xh_oin (hd : decode (mC m) pc = .ok (.invokespecial x, 3)) (hp : pl (mK m) x = (8, a, b, z)) (hA : A < h.1) (hs : ((st.map ct).sum).ble 8 = true) (kk : XH d m (pc + 3) ls st h P) : XH d m pc ls (vR A :: st) h P := by
  refine XH.go (fun _ => ex1_hp (h' := h) (st' := st) hd rfl rfl rfl ?_) kk
  show (match pl (mK m) x, (vR A :: st) with
    | (8, _, _, _), .inr (.inr (.inl (some a))) :: r => if (r.map ct).sum ≤ 8 ∧ a < h.1 then some (r, h) else none
    | _, _ => none) = _
  rw [hp]
  exact if_pos ⟨Nat.le_of_ble_eq_true hs, hA⟩
theorem xh_vre (hd : decode (mC m) pc = .ok (.return_, 1)) (hb : mR m = none) (hP : P rV h) : XH d m pc ls [] h P := ⟨1, rV, h, (ex1_ctl hd rfl rfl rfl rfl).trans (if_pos hb), hP⟩
theorem xh_len {k9 n9 : Nat} {f9 : Nat → Int} (hd : decode (mC m) pc = .ok (.arraylength, 1)) (hA : A < h.1) (hg : gt h A = cA k9 n9 f9) (hn : n9.blt 2147483648 = true) (hk : k9.blt 4 = true) (kk : XH d m (pc + 1) ls (vI n9 :: st) h P) : XH d m pc ls (vR A :: st) h P := by
  refine XH.go (fun _ => ex1_hp (h' := h) (st' := vI n9 :: st) hd rfl rfl rfl ?_) kk
  show (if A < h.1 ∨ E0 ≤ A then (match gt h A with
    | .inl (k9, n9, _) => if k9 < 4 ∧ n9 < 2147483648 then some (vI n9 :: st, h) else none
    | _ => none) else none) = _
  rw [if_pos (Or.inl hA), hg]
  exact if_pos ⟨blt_ok hk, blt_ok hn⟩
theorem xh_iast {n9 : Nat} {f9 : Nat → Int} {i v : Int} (hd : decode (mC m) pc = .ok (.iastore, 1)) (hA : A < h.1) (hg : gt h A = cA 0 n9 f9) (hn : n9.blt 2147483648 = true) (hi : inB i n9 = true) (kk : ∀ h1, D1 h h1 A (cA 0 n9 (up f9 i.toNat v)) → XH d m (pc + 1) ls st h1 P) : XH d m pc ls (vI v :: vI i :: vR A :: st) h P := by
  refine XH.go (fun _ => ex1_hp hd rfl rfl rfl ?_) (kk _ D1.sv)
  obtain ⟨i0, i1⟩ := inB_ok hi
  show (if A < h.1 then (match gt h A with
    | .inl (k9, n9, f) => if k9 = 0 ∧ 0 ≤ i ∧ i.toNat < n9 ∧ n9 < 2147483648 then some (st, sv h A (.inl (k9, n9, up f i.toNat v))) else none
    | _ => none) else none) = _
  rw [if_pos hA, hg]
  exact if_pos ⟨rfl, i0, i1, blt_ok hn⟩
theorem xh_aast {n9 : Nat} {f9 : Nat → Option Nat} {i : Int} {B9 : Nat} {fs : List AV} (hd : decode (mC m) pc = .ok (.aastore, 1)) (hA : A < h.1) (hB : B9 < h.1) (hg : gt h A = cQ n9 f9) (hgB : gt h B9 = cO 0 fs) (hn : n9.blt 2147483648 = true) (hi : inB i n9 = true) (kk : ∀ h1, D1 h h1 A (cQ n9 (up f9 i.toNat (some B9))) → XH d m (pc + 1) ls st h1 P) : XH d m pc ls (vR B9 :: vI i :: vR A :: st) h P := by
  refine XH.go (fun _ => ex1_hp hd rfl rfl rfl ?_) (kk _ D1.sv)
  obtain ⟨i0, i1⟩ := inB_ok hi
  show (if A < h.1 ∧ B9 < h.1 then (match gt h A, gt h B9 with
    | .inr (.inl (n, f)), .inr (.inr (c, _)) => if c = 0 ∧ 0 ≤ i ∧ i.toNat < n ∧ n < 2147483648 then some (st, sv h A (.inr (.inl (n, up f i.toNat (some B9))))) else none
    | _, _ => none) else none) = _
  rw [if_pos ⟨hA, hB⟩, hg, hgB]
  exact if_pos ⟨rfl, i0, i1, blt_ok hn⟩
/-- a call that comes back -/
theorem xh_call {vs st' : List AV} {P' : AR → AH → Prop} (hd : CK m pc kd x) (hp : pl (mK m) x = (1, y, b, z)) (hc : CO kd y vs st' = true) (hr : calO kd (mA y + (bif kd.beq 0 then 0 else 1)) y (vs.reverse ++ st') h = true) (hE : XH d y 0 (ent y vs) [] h P') (kk : ∀ r h1, P' r h1 → ∃ rv, r = .inl rv ∧ XH (d + 1) m (pc + 3) ls (rv.toList ++ st') h1 P) : XH (d + 1) m pc ls (vs.reverse ++ st') h P := by
  obtain ⟨n1, r1, h1, e1, p1⟩ := hE
  obtain ⟨rv, rfl, n2, r2, h2, e2, p2⟩ := kk r1 h1 p1
  refine ⟨max n1 n2 + 1, r2, h2, ?_, p2⟩
  rw [ex1_cal (vs := vs) hd hp]
  unfold cal
  rw [hp]
  obtain ⟨t1, t2⟩ := CO.take hc
  simp only [hr, if_true, t1, t2, List.reverse_reverse]
  rw [exec_le (Nat.le_max_left n1 n2) e1]
  exact exec_le (Nat.le_max_right n1 n2) e2
/-- a constructor of an object that lies below -/
theorem calO_I {vs st' : List AV} (hc : CO 2 y (vR A :: vs) st' = true) (hA : A < E0) : calO 2 (mA y + (bif Nat.beq 2 0 then 0 else 1)) y ((vR A :: vs).reverse ++ st') h = true := calO_of hc (Or.inr ⟨vs, _, rfl, Or.inr ⟨rfl, A, rfl, hA⟩⟩)
theorem calO_V {vs st' : List AV} {fs : List AV} (hc : CO 1 y (vR A :: vs) st' = true) (hg : gt h A = cO (mK y) fs) (hA : A < h.1) (hk : (mK y).blt 13 = true) : calO 1 (mA y + (bif Nat.beq 1 0 then 0 else 1)) y ((vR A :: vs).reverse ++ st') h = true := by
  refine calO_of hc (Or.inr ⟨vs, _, rfl, Or.inl ⟨rfl, A, rfl, ?_⟩⟩)
  show (match gt h A with
    | .inr (.inr (c, _)) => bif decide (A < h.1) then decide (c = mK y ∧ mK y < 13) else decide (E0 ≤ A ∧ c = 50 ∧ mK y = 16)
    | _ => false) = true
  rw [hg]
  show (bif decide (A < h.1) then decide (mK y = mK y ∧ mK y < 13) else decide (E0 ≤ A ∧ mK y = 50 ∧ mK y = 16)) = true
  rw [decide_eq_true hA]
  exact decide_eq_true ⟨rfl, blt_ok hk⟩
end XhRows
theorem xh_ldc {d m pc x a b : Nat} {ls st : List AV} {h : AH} {P : AR → AH → Prop} {z : Int} (hd : decode (mC m) pc = .ok (.ldc x, 2)) (hp : pl (mK m) x = (4, a, b, z)) (kk : XH d m (pc + 2) ls (vI z :: st) h P) : XH d m pc ls st h P := by
  refine XH.go (fun _ => ex1_hp (h' := h) (st' := vI z :: st) hd rfl rfl rfl ?_) kk
  show hLdc false (pl (mK m) x) st h = _
  rw [hp]
  rfl
theorem xh_fill {d A n : Nat} {h : AH} {v : Int} {f : Nat → Int} (hA : A < h.1) (hg : gt h A = cA 0 n f) (hn : n.blt 2147483648 = true) : XH d 301 0 (ent 301 [vR A, vI v]) [] h (fun r h1 => r = rV ∧ D1 h h1 A (cA 0 n (fun j => if j < n then v else f j))) := by
  show XH d 301 0 [vR A, vI v, vU, vU] [] h _
  have hn9 : n < 2147483648 := blt_ok hn
  refine xh_pu (ls' := [vR A, vI v, vU, vU]) (st' := [vI 0]) (dg dc301 0 rfl) rfl rfl ?_
  refine xh_pu (ls' := [vR A, vI v, vI 0, vU]) (st' := []) (dg dc301 1 rfl) rfl rfl ?_
  refine xh_pu (ls' := [vR A, vI v, vI 0, vU]) (st' := [vR A]) (dg dc301 2 rfl) rfl rfl ?_
  refine xh_len (dg dc301 3 rfl) hA hg hn rfl ?_
  refine xh_pu (ls' := [vR A, vI v, vI 0, vI n]) (st' := []) (dg dc301 4 rfl) rfl rfl ?_
  have key : ∀ (k i : Nat) (h2 : AH), k + i = n → D1 h h2 A (cA 0 n (fun j => if j < i then v else f j)) → XH d 301 5 [vR A, vI v, vI (i : Int), vI (n : Int)] [] h2 (fun r h1 => r = rV ∧ D1 h h1 A (cA 0 n (fun j => if j < n then v else f j))) := by
    intro k
    induction k with
    | zero =>
      intro i h2 hk hD
      have hi : i = n := by omega
      subst hi
      refine xh_pu (ls' := [vR A, vI v, vI i, vI i]) (st' := [vI i]) (dg dc301 5 rfl) rfl rfl ?_
      refine xh_pu (ls' := [vR A, vI v, vI i, vI i]) (st' := [vI i, vI i]) (dg dc301 6 rfl) rfl rfl ?_
      have hc : cmpB .ge (i : Int) (i : Int) = true := by rw [cmp_ge (by omega) (by omega)]; exact decide_eq_true (Int.le_refl _)
      refine xh_icmp (b9 := true) (t := 20) (dg dc301 7 rfl) rfl hc ?_
      exact xh_vre (dg dc301 14 rfl) rfl ⟨rfl, hD⟩
    | succ k ih =>
      intro i h2 hk hD
      obtain ⟨x1, x2, x3, x4⟩ := hD
      refine xh_pu (ls' := [vR A, vI v, vI i, vI n]) (st' := [vI i]) (dg dc301 5 rfl) rfl rfl ?_
      refine xh_pu (ls' := [vR A, vI v, vI i, vI n]) (st' := [vI n, vI i]) (dg dc301 6 rfl) rfl rfl ?_
      have hc : cmpB .ge (i : Int) (n : Int) = false := by rw [cmp_ge (by omega) (by omega)]; exact decide_eq_false (by omega)
      refine xh_icmp (b9 := false) (t := 20) (dg dc301 7 rfl) rfl hc ?_
      show XH d 301 10 _ _ _ _
      refine xh_pu (ls' := [vR A, vI v, vI i, vI n]) (st' := [vR A]) (dg dc301 8 rfl) rfl rfl ?_
      refine xh_pu (ls' := [vR A, vI v, vI i, vI n]) (st' := [vI i, vR A]) (dg dc301 9 rfl) rfl rfl ?_
      refine xh_pu (ls' := [vR A, vI v, vI i, vI n]) (st' := [vI v, vI i, vR A]) (dg dc301 10 rfl) rfl rfl ?_
      have hb : inB (i : Int) n = true := by
        unfold inB
        simp only [Bool.and_eq_true, decide_eq_true_eq]
        omega
      refine xh_iast (dg dc301 11 rfl) (by rw [x1]; exact hA) x3 hn hb (fun h3 e3 => ?_)
      obtain ⟨y1, y2, y3, y4⟩ := e3
      refine xh_pu (ls' := [vR A, vI v, vI ((i : Int) + 1), vI n]) (st' := []) (dg dc301 12 rfl) rfl rfl ?_
      refine xh_goto (t := 5) (dg dc301 13 rfl) rfl rfl ?_
      refine ih (i + 1) h3 (by omega) ⟨y1.trans x1, y2.trans x2, ?_, fun B hB => (y4 B hB).trans (x4 B hB)⟩
      rw [y3]
      refine congrArg (cA 0 n) (funext fun j => ?_)
      show (if j = (i : Int).toNat then v else if j < i then v else f j) = if j < i + 1 then v else f j
      rw [Int.toNat_natCast]
      by_cases h1 : j = i
      · rw [if_pos h1, if_pos (by omega)]
      · rw [if_neg h1]
        by_cases h2 : j < i
        · rw [if_pos h2, if_pos (by omega)]
        · rw [if_neg h2, if_neg (by omega)]
  refine key n 0 h (by omega) ⟨rfl, rfl, ?_, fun _ _ => rfl⟩
  rw [hg]
  exact congrArg (cA 0 n) (funext fun j => (if_neg (Nat.not_lt_zero j)).symm)
def il86 : List (Nat × Instr × Nat) := [(0, .aload_n 0, 1), (1, .invokespecial 3, 3), (4, .aload_n 0, 1), (5, .sipush 400, 3), (8, .newarray .int, 2), (10, .putfield 11, 3), (13, .aload_n 0, 1), (14, .iconst 0, 1), (15, .putfield 15, 3), (18, .aload_n 0, 1), (19, .iconst (-1), 1), (20, .putfield 19, 3), (23, .aload_n 0, 1), (24, .iconst 0, 1), (25, .putfield 22, 3), (28, .aload_n 0, 1), (29, .iconst 0, 1), (30, .putfield 25, 3), (33, .return_, 1)]
theorem dc86 : dcs (mC 86) il86 := dc_of (by decide +kernel)
set_option maxRecDepth 4000 in
theorem ctor86 {d : Nat} {h : AH} {b : Nat} (hb : b < h.1) (hg : gt h b = cO 9 [vN, vI 0, vI 0, vI 0, vI 0]) : XH d 86 0 (ent 86 [vR b]) [] h (fun r h1 => r = rV ∧ h1.1 = h.1 + 1 ∧ h1.2.1 = h.2.1 + 400 ∧ gt h1 b = cO 9 [vR (h.1 + 0), vI 0, vI (-1), vI 0, vI 0] ∧ gt h1 (h.1 + 0) = cA 0 400 (fun _ => 0) ∧ ∀ B, B ≠ b → (B < h.1 ∨ h.1 + 1 ≤ B) → gt h1 B = gt h B) := by
  show XH d 86 0 [vR b] [] h _
  have hn_0 : h.1 = h.1 + 0 := rfl
  have hs_0 : h.2.1 = h.2.1 + 0 := rfl
  have hg_0 : gt h b = cO 9 [vN, vI 0, vI 0, vI 0, vI 0] := hg
  have hf_0 : ∀ B, B ≠ b → (B < h.1 ∨ h.1 + 1 ≤ B) → gt h B = gt h B := fun _ _ _ => rfl
  refine xh_pu (ls' := [vR b]) (st' := [vR b]) (dg dc86 0 rfl) rfl rfl ?_
  refine xh_oin (dg dc86 1 rfl) rfl (by omega) rfl ?_
  refine xh_pu (ls' := [vR b]) (st' := [vR b]) (dg dc86 2 rfl) rfl rfl ?_
  refine xh_pu (ls' := [vR b]) (st' := [vI 400, vR b]) (dg dc86 3 rfl) rfl rfl ?_
  refine xh_newa (n9 := 400) (dg dc86 4 rfl) rfl rfl (fun h_1 e_1 => ?_)
  obtain ⟨x1_1, x2_1, x3_1, x4_1⟩ := e_1
  have hn_1 : h_1.1 = h.1 + 1 := by rw [x1_1, hn_0]
  have hs_1 : h_1.2.1 = h.2.1 + 400 := by rw [x2_1, hs_0]
  have hg_1 : gt h_1 b = cO 9 [vN, vI 0, vI 0, vI 0, vI 0] := (x4_1 b (by omega)).trans hg_0
  have ha0_1 : gt h_1 (h.1 + 0) = cA 0 400 (fun _ => 0) := by rw [← hn_0]; exact x3_1
  have hf_1 : ∀ B, B ≠ b → (B < h.1 ∨ h.1 + 1 ≤ B) → gt h_1 B = gt h B := fun B q1 q2 => (x4_1 B (by omega)).trans (hf_0 B q1 q2)
  show XH _ 86 _ _ (vR (h.1 + 0) :: _) _ _
  refine xh_put (dg dc86 5 rfl) rfl (by omega) hg_1 rfl rfl (fun h_2 e_2 => ?_)
  obtain ⟨x1_2, x2_2, x3_2, x4_2⟩ := e_2
  have hn_2 : h_2.1 = h.1 + 1 := by rw [x1_2, hn_1]
  have hs_2 : h_2.2.1 = h.2.1 + 400 := by rw [x2_2, hs_1]
  have hg_2 : gt h_2 b = cO 9 [vR (h.1 + 0), vI 0, vI 0, vI 0, vI 0] := x3_2
  have ha0_2 : gt h_2 (h.1 + 0) = cA 0 400 (fun _ => 0) := (x4_2 _ (by omega)).trans ha0_1
  have hf_2 : ∀ B, B ≠ b → (B < h.1 ∨ h.1 + 1 ≤ B) → gt h_2 B = gt h B := fun B q1 q2 => (x4_2 B q1).trans (hf_1 B q1 q2)
  refine xh_pu (ls' := [vR b]) (st' := [vR b]) (dg dc86 6 rfl) rfl rfl ?_
  refine xh_pu (ls' := [vR b]) (st' := [vI 0, vR b]) (dg dc86 7 rfl) rfl rfl ?_
  refine xh_put (dg dc86 8 rfl) rfl (by omega) hg_2 rfl rfl (fun h_3 e_3 => ?_)
  obtain ⟨x1_3, x2_3, x3_3, x4_3⟩ := e_3
  have hn_3 : h_3.1 = h.1 + 1 := by rw [x1_3, hn_2]
  have hs_3 : h_3.2.1 = h.2.1 + 400 := by rw [x2_3, hs_2]
  have hg_3 : gt h_3 b = cO 9 [vR (h.1 + 0), vI 0, vI 0, vI 0, vI 0] := x3_3
  have ha0_3 : gt h_3 (h.1 + 0) = cA 0 400 (fun _ => 0) := (x4_3 _ (by omega)).trans ha0_2
  have hf_3 : ∀ B, B ≠ b → (B < h.1 ∨ h.1 + 1 ≤ B) → gt h_3 B = gt h B := fun B q1 q2 => (x4_3 B q1).trans (hf_2 B q1 q2)
  refine xh_pu (ls' := [vR b]) (st' := [vR b]) (dg dc86 9 rfl) rfl rfl ?_
  refine xh_pu (ls' := [vR b]) (st' := [vI (-1), vR b]) (dg dc86 10 rfl) rfl rfl ?_
  refine xh_put (dg dc86 11 rfl) rfl (by omega) hg_3 rfl rfl (fun h_4 e_4 => ?_)
  obtain ⟨x1_4, x2_4, x3_4, x4_4⟩ := e_4
  have hn_4 : h_4.1 = h.1 + 1 := by rw [x1_4, hn_3]
  have hs_4 : h_4.2.1 = h.2.1 + 400 := by rw [x2_4, hs_3]
  have hg_4 : gt h_4 b = cO 9 [vR (h.1 + 0), vI 0, vI (-1), vI 0, vI 0] := x3_4
  have ha0_4 : gt h_4 (h.1 + 0) = cA 0 400 (fun _ => 0) := (x4_4 _ (by omega)).trans ha0_3
  have hf_4 : ∀ B, B ≠ b → (B < h.1 ∨ h.1 + 1 ≤ B) → gt h_4 B = gt h B := fun B q1 q2 => (x4_4 B q1).trans (hf_3 B q1 q2)
  refine xh_pu (ls' := [vR b]) (st' := [vR b]) (dg dc86 12 rfl) rfl rfl ?_
  refine xh_pu (ls' := [vR b]) (st' := [vI 0, vR b]) (dg dc86 13 rfl) rfl rfl ?_
  refine xh_put (dg dc86 14 rfl) rfl (by omega) hg_4 rfl rfl (fun h_5 e_5 => ?_)
  obtain ⟨x1_5, x2_5, x3_5, x4_5⟩ := e_5
  have hn_5 : h_5.1 = h.1 + 1 := by rw [x1_5, hn_4]
  have hs_5 : h_5.2.1 = h.2.1 + 400 := by rw [x2_5, hs_4]
  have hg_5 : gt h_5 b = cO 9 [vR (h.1 + 0), vI 0, vI (-1), vI 0, vI 0] := x3_5
  have ha0_5 : gt h_5 (h.1 + 0) = cA 0 400 (fun _ => 0) := (x4_5 _ (by omega)).trans ha0_4
  have hf_5 : ∀ B, B ≠ b → (B < h.1 ∨ h.1 + 1 ≤ B) → gt h_5 B = gt h B := fun B q1 q2 => (x4_5 B q1).trans (hf_4 B q1 q2)
  refine xh_pu (ls' := [vR b]) (st' := [vR b]) (dg dc86 15 rfl) rfl rfl ?_
  refine xh_pu (ls' := [vR b]) (st' := [vI 0, vR b]) (dg dc86 16 rfl) rfl rfl ?_
  refine xh_put (dg dc86 17 rfl) rfl (by omega) hg_5 rfl rfl (fun h_6 e_6 => ?_)
  obtain ⟨x1_6, x2_6, x3_6, x4_6⟩ := e_6
  have hn_6 : h_6.1 = h.1 + 1 := by rw [x1_6, hn_5]
  have hs_6 : h_6.2.1 = h.2.1 + 400 := by rw [x2_6, hs_5]
  have hg_6 : gt h_6 b = cO 9 [vR (h.1 + 0), vI 0, vI (-1), vI 0, vI 0] := x3_6
  have ha0_6 : gt h_6 (h.1 + 0) = cA 0 400 (fun _ => 0) := (x4_6 _ (by omega)).trans ha0_5
  have hf_6 : ∀ B, B ≠ b → (B < h.1 ∨ h.1 + 1 ≤ B) → gt h_6 B = gt h B := fun B q1 q2 => (x4_6 B q1).trans (hf_5 B q1 q2)
  exact xh_vre (dg dc86 18 rfl) rfl ⟨rfl, hn_6, hs_6, hg_6, ha0_6, hf_6⟩
def il7 : List (Nat × Instr × Nat) := [(0, .aload_n 0, 1), (1, .invokespecial 3, 3), (4, .aload_n 0, 1), (5, .iconst 0, 1), (6, .putfield 9, 3), (9, .aload_n 0, 1), (10, .iconst 0, 1), (11, .putfield 15, 3), (14, .aload_n 0, 1), (15, .iconst 0, 1), (16, .putfield 18, 3), (19, .aload_n 0, 1), (20, .iconst 0, 1), (21, .putfield 21, 3), (24, .aload_n 0, 1), (25, .iconst 0, 1), (26, .putfield 24, 3), (29, .aload_n 0, 1), (30, .iconst 0, 1), (31, .putfield 27, 3), (34, .aload_n 0, 1), (35, .iconst 0, 1), (36, .putfield 30, 3), (39, .aload_n 0, 1), (40, .bipush 17, 2), (42, .newarray .int, 2), (44, .putfield 33, 3), (47, .aload_n 0, 1), (48, .bipush 17, 2), (50, .newarray .int, 2), (52, .putfield 37, 3), (55, .aload_n 0, 1), (56, .bipush 10, 2), (58, .newarray .int, 2), (60, .putfield 40, 3), (63, .aload_n 0, 1), (64, .bipush 10, 2), (66, .newarray .int, 2), (68, .putfield 43, 3), (71, .aload_n 0, 1), (72, .bipush 10, 2), (74, .newarray .int, 2), (76, .putfield 46, 3), (79, .aload_n 0, 1), (80, .bipush 10, 2), (82, .newarray .int, 2), (84, .putfield 49, 3), (87, .aload_n 0, 1), (88, .bipush 10, 2), (90, .newarray .int, 2), (92, .putfield 52, 3), (95, .aload_n 0, 1), (96, .bipush 32, 2), (98, .newarray .int, 2), (100, .putfield 55, 3), (103, .aload_n 0, 1), (104, .bipush 16, 2), (106, .newarray .int, 2), (108, .putfield 58, 3), (111, .aload_n 0, 1), (112, .bipush 16, 2), (114, .newarray .int, 2), (116, .putfield 61, 3), (119, .aload_n 0, 1), (120, .bipush 7, 2), (122, .newarray .int, 2), (124, .putfield 64, 3), (127, .aload_n 0, 1), (128, .bipush 7, 2), (130, .newarray .int, 2), (132, .putfield 67, 3), (135, .aload_n 0, 1), (136, .bipush 7, 2), (138, .newarray .int, 2), (140, .putfield 70, 3), (143, .return_, 1)]
theorem dc7 : dcs (mC 7) il7 := dc_of (by decide +kernel)
set_option maxRecDepth 4000 in
theorem ctor7 {d : Nat} {h : AH} {b : Nat} (hb : b < h.1) (hg : gt h b = cO 1 [vI 0, vI 0, vI 0, vI 0, vI 0, vI 0, vI 0, vN, vN, vN, vN, vN, vN, vN, vN, vN, vN, vN, vN, vN]) : XH d 7 0 (ent 7 [vR b]) [] h (fun r h1 => r = rV ∧ h1.1 = h.1 + 13 ∧ h1.2.1 = h.2.1 + 169 ∧ gt h1 b = cO 1 [vI 0, vI 0, vI 0, vI 0, vI 0, vI 0, vI 0, vR (h.1 + 0), vR (h.1 + 1), vR (h.1 + 2), vR (h.1 + 3), vR (h.1 + 4), vR (h.1 + 5), vR (h.1 + 6), vR (h.1 + 7), vR (h.1 + 8), vR (h.1 + 9), vR (h.1 + 10), vR (h.1 + 11), vR (h.1 + 12)] ∧ gt h1 (h.1 + 0) = cA 0 17 (fun _ => 0) ∧ gt h1 (h.1 + 1) = cA 0 17 (fun _ => 0) ∧ gt h1 (h.1 + 2) = cA 0 10 (fun _ => 0) ∧ gt h1 (h.1 + 3) = cA 0 10 (fun _ => 0) ∧ gt h1 (h.1 + 4) = cA 0 10 (fun _ => 0) ∧ gt h1 (h.1 + 5) = cA 0 10 (fun _ => 0) ∧ gt h1 (h.1 + 6) = cA 0 10 (fun _ => 0) ∧ gt h1 (h.1 + 7) = cA 0 32 (fun _ => 0) ∧ gt h1 (h.1 + 8) = cA 0 16 (fun _ => 0) ∧ gt h1 (h.1 + 9) = cA 0 16 (fun _ => 0) ∧ gt h1 (h.1 + 10) = cA 0 7 (fun _ => 0) ∧ gt h1 (h.1 + 11) = cA 0 7 (fun _ => 0) ∧ gt h1 (h.1 + 12) = cA 0 7 (fun _ => 0) ∧ ∀ B, B ≠ b → (B < h.1 ∨ h.1 + 13 ≤ B) → gt h1 B = gt h B) := by
  show XH d 7 0 [vR b] [] h _
  have hn_0 : h.1 = h.1 + 0 := rfl
  have hs_0 : h.2.1 = h.2.1 + 0 := rfl
  have hg_0 : gt h b = cO 1 [vI 0, vI 0, vI 0, vI 0, vI 0, vI 0, vI 0, vN, vN, vN, vN, vN, vN, vN, vN, vN, vN, vN, vN, vN] := hg
  have hf_0 : ∀ B, B ≠ b → (B < h.1 ∨ h.1 + 13 ≤ B) → gt h B = gt h B := fun _ _ _ => rfl
  refine xh_pu (ls' := [vR b]) (st' := [vR b]) (dg dc7 0 rfl) rfl rfl ?_
  refine xh_oin (dg dc7 1 rfl) rfl (by omega) rfl ?_
  refine xh_pu (ls' := [vR b]) (st' := [vR b]) (dg dc7 2 rfl) rfl rfl ?_
  refine xh_pu (ls' := [vR b]) (st' := [vI 0, vR b]) (dg dc7 3 rfl) rfl rfl ?_
  refine xh_put (dg dc7 4 rfl) rfl (by omega) hg_0 rfl rfl (fun h_1 e_1 => ?_)
  obtain ⟨x1_1, x2_1, x3_1, x4_1⟩ := e_1
  have hn_1 : h_1.1 = h.1 + 0 := by rw [x1_1, hn_0]
  have hs_1 : h_1.2.1 = h.2.1 + 0 := by rw [x2_1, hs_0]
  have hg_1 : gt h_1 b = cO 1 [vI 0, vI 0, vI 0, vI 0, vI 0, vI 0, vI 0, vN, vN, vN, vN, vN, vN, vN, vN, vN, vN, vN, vN, vN] := x3_1
  have hf_1 : ∀ B, B ≠ b → (B < h.1 ∨ h.1 + 13 ≤ B) → gt h_1 B = gt h B := fun B q1 q2 => (x4_1 B q1).trans (hf_0 B q1 q2)
  refine xh_pu (ls' := [vR b]) (st' := [vR b]) (dg dc7 5 rfl) rfl rfl ?_
  refine xh_pu (ls' := [vR b]) (st' := [vI 0, vR b]) (dg dc7 6 rfl) rfl rfl ?_
  refine xh_put (dg dc7 7 rfl) rfl (by omega) hg_1 rfl rfl (fun h_2 e_2 => ?_)
  obtain ⟨x1_2, x2_2, x3_2, x4_2⟩ := e_2
  have hn_2 : h_2.1 = h.1 + 0 := by rw [x1_2, hn_1]
  have hs_2 : h_2.2.1 = h.2.1 + 0 := by rw [x2_2, hs_1]
  have hg_2 : gt h_2 b = cO 1 [vI 0, vI 0, vI 0, vI 0, vI 0, vI 0, vI 0, vN, vN, vN, vN, vN, vN, vN, vN, vN, vN, vN, vN, vN] := x3_2
  have hf_2 : ∀ B, B ≠ b → (B < h.1 ∨ h.1 + 13 ≤ B) → gt h_2 B = gt h B := fun B q1 q2 => (x4_2 B q1).trans (hf_1 B q1 q2)
  refine xh_pu (ls' := [vR b]) (st' := [vR b]) (dg dc7 8 rfl) rfl rfl ?_
  refine xh_pu (ls' := [vR b]) (st' := [vI 0, vR b]) (dg dc7 9 rfl) rfl rfl ?_
  refine xh_put (dg dc7 10 rfl) rfl (by omega) hg_2 rfl rfl (fun h_3 e_3 => ?_)
  obtain ⟨x1_3, x2_3, x3_3, x4_3⟩ := e_3
  have hn_3 : h_3.1 = h.1 + 0 := by rw [x1_3, hn_2]
  have hs_3 : h_3.2.1 = h.2.1 + 0 := by rw [x2_3, hs_2]
  have hg_3 : gt h_3 b = cO 1 [vI 0, vI 0, vI 0, vI 0, vI 0, vI 0, vI 0, vN, vN, vN, vN, vN, vN, vN, vN, vN, vN, vN, vN, vN] := x3_3
  have hf_3 : ∀ B, B ≠ b → (B < h.1 ∨ h.1 + 13 ≤ B) → gt h_3 B = gt h B := fun B q1 q2 => (x4_3 B q1).trans (hf_2 B q1 q2)
  refine xh_pu (ls' := [vR b]) (st' := [vR b]) (dg dc7 11 rfl) rfl rfl ?_
  refine xh_pu (ls' := [vR b]) (st' := [vI 0, vR b]) (dg dc7 12 rfl) rfl rfl ?_
  refine xh_put (dg dc7 13 rfl) rfl (by omega) hg_3 rfl rfl (fun h_4 e_4 => ?_)
  obtain ⟨x1_4, x2_4, x3_4, x4_4⟩ := e_4
  have hn_4 : h_4.1 = h.1 + 0 := by rw [x1_4, hn_3]
  have hs_4 : h_4.2.1 = h.2.1 + 0 := by rw [x2_4, hs_3]
  have hg_4 : gt h_4 b = cO 1 [vI 0, vI 0, vI 0, vI 0, vI 0, vI 0, vI 0, vN, vN, vN, vN, vN, vN, vN, vN, vN, vN, vN, vN, vN] := x3_4
  have hf_4 : ∀ B, B ≠ b → (B < h.1 ∨ h.1 + 13 ≤ B) → gt h_4 B = gt h B := fun B q1 q2 => (x4_4 B q1).trans (hf_3 B q1 q2)
  refine xh_pu (ls' := [vR b]) (st' := [vR b]) (dg dc7 14 rfl) rfl rfl ?_
  refine xh_pu (ls' := [vR b]) (st' := [vI 0, vR b]) (dg dc7 15 rfl) rfl rfl ?_
  refine xh_put (dg dc7 16 rfl) rfl (by omega) hg_4 rfl rfl (fun h_5 e_5 => ?_)
  obtain ⟨x1_5, x2_5, x3_5, x4_5⟩ := e_5
  have hn_5 : h_5.1 = h.1 + 0 := by rw [x1_5, hn_4]
  have hs_5 : h_5.2.1 = h.2.1 + 0 := by rw [x2_5, hs_4]
  have hg_5 : gt h_5 b = cO 1 [vI 0, vI 0, vI 0, vI 0, vI 0, vI 0, vI 0, vN, vN, vN, vN, vN, vN, vN, vN, vN, vN, vN, vN, vN] := x3_5
  have hf_5 : ∀ B, B ≠ b → (B < h.1 ∨ h.1 + 13 ≤ B) → gt h_5 B = gt h B := fun B q1 q2 => (x4_5 B q1).trans (hf_4 B q1 q2)
  refine xh_pu (ls' := [vR b]) (st' := [vR b]) (dg dc7 17 rfl) rfl rfl ?_
  refine xh_pu (ls' := [vR b]) (st' := [vI 0, vR b]) (dg dc7 18 rfl) rfl rfl ?_
  refine xh_put (dg dc7 19 rfl) rfl (by omega) hg_5 rfl rfl (fun h_6 e_6 => ?_)
  obtain ⟨x1_6, x2_6, x3_6, x4_6⟩ := e_6
  have hn_6 : h_6.1 = h.1 + 0 := by rw [x1_6, hn_5]
  have hs_6 : h_6.2.1 = h.2.1 + 0 := by rw [x2_6, hs_5]
  have hg_6 : gt h_6 b = cO 1 [vI 0, vI 0, vI 0, vI 0, vI 0, vI 0, vI 0, vN, vN, vN, vN, vN, vN, vN, vN, vN, vN, vN, vN, vN] := x3_6
  have hf_6 : ∀ B, B ≠ b → (B < h.1 ∨ h.1 + 13 ≤ B) → gt h_6 B = gt h B := fun B q1 q2 => (x4_6 B q1).trans (hf_5 B q1 q2)
  refine xh_pu (ls' := [vR b]) (st' := [vR b]) (dg dc7 20 rfl) rfl rfl ?_
  refine xh_pu (ls' := [vR b]) (st' := [vI 0, vR b]) (dg dc7 21 rfl) rfl rfl ?_
  refine xh_put (dg dc7 22 rfl) rfl (by omega) hg_6 rfl rfl (fun h_7 e_7 => ?_)
  obtain ⟨x1_7, x2_7, x3_7, x4_7⟩ := e_7
  have hn_7 : h_7.1 = h.1 + 0 := by rw [x1_7, hn_6]
  have hs_7 : h_7.2.1 = h.2.1 + 0 := by rw [x2_7, hs_6]
  have hg_7 : gt h_7 b = cO 1 [vI 0, vI 0, vI 0, vI 0, vI 0, vI 0, vI 0, vN, vN, vN, vN, vN, vN, vN, vN, vN, vN, vN, vN, vN] := x3_7
  have hf_7 : ∀ B, B ≠ b → (B < h.1 ∨ h.1 + 13 ≤ B) → gt h_7 B = gt h B := fun B q1 q2 => (x4_7 B q1).trans (hf_6 B q1 q2)
  refine xh_pu (ls' := [vR b]) (st' := [vR b]) (dg dc7 23 rfl) rfl rfl ?_
  refine xh_pu (ls' := [vR b]) (st' := [vI 17, vR b]) (dg dc7 24 rfl) rfl rfl ?_
  refine xh_newa (n9 := 17) (dg dc7 25 rfl) rfl rfl (fun h_8 e_8 => ?_)
  obtain ⟨x1_8, x2_8, x3_8, x4_8⟩ := e_8
  have hn_8 : h_8.1 = h.1 + 1 := by rw [x1_8, hn_7]
  have hs_8 : h_8.2.1 = h.2.1 + 17 := by rw [x2_8, hs_7]
  have hg_8 : gt h_8 b = cO 1 [vI 0, vI 0, vI 0, vI 0, vI 0, vI 0, vI 0, vN, vN, vN, vN, vN, vN, vN, vN, vN, vN, vN, vN, vN] := (x4_8 b (by omega)).trans hg_7
  have ha0_8 : gt h_8 (h.1 + 0) = cA 0 17 (fun _ => 0) := by rw [← hn_7]; exact x3_8
  have hf_8 : ∀ B, B ≠ b → (B < h.1 ∨ h.1 + 13 ≤ B) → gt h_8 B = gt h B := fun B q1 q2 => (x4_8 B (by omega)).trans (hf_7 B q1 q2)
  rw [show h_7.1 = h.1 + 0 from hn_7]
  refine xh_put (dg dc7 26 rfl) rfl (by omega) hg_8 rfl rfl (fun h_9 e_9 => ?_)
  obtain ⟨x1_9, x2_9, x3_9, x4_9⟩ := e_9
  have hn_9 : h_9.1 = h.1 + 1 := by rw [x1_9, hn_8]
  have hs_9 : h_9.2.1 = h.2.1 + 17 := by rw [x2_9, hs_8]
  have hg_9 : gt h_9 b = cO 1 [vI 0, vI 0, vI 0, vI 0, vI 0, vI 0, vI 0, vR (h.1 + 0), vN, vN, vN, vN, vN, vN, vN, vN, vN, vN, vN, vN] := x3_9
  have ha0_9 : gt h_9 (h.1 + 0) = cA 0 17 (fun _ => 0) := (x4_9 _ (by omega)).trans ha0_8
  have hf_9 : ∀ B, B ≠ b → (B < h.1 ∨ h.1 + 13 ≤ B) → gt h_9 B = gt h B := fun B q1 q2 => (x4_9 B q1).trans (hf_8 B q1 q2)
  refine xh_pu (ls' := [vR b]) (st' := [vR b]) (dg dc7 27 rfl) rfl rfl ?_
  refine xh_pu (ls' := [vR b]) (st' := [vI 17, vR b]) (dg dc7 28 rfl) rfl rfl ?_
  refine xh_newa (n9 := 17) (dg dc7 29 rfl) rfl rfl (fun h_10 e_10 => ?_)
  obtain ⟨x1_10, x2_10, x3_10, x4_10⟩ := e_10
  have hn_10 : h_10.1 = h.1 + 2 := by rw [x1_10, hn_9]
  have hs_10 : h_10.2.1 = h.2.1 + 34 := by rw [x2_10, hs_9]
  have hg_10 : gt h_10 b = cO 1 [vI 0, vI 0, vI 0, vI 0, vI 0, vI 0, vI 0, vR (h.1 + 0), vN, vN, vN, vN, vN, vN, vN, vN, vN, vN, vN, vN] := (x4_10 b (by omega)).trans hg_9
  have ha0_10 : gt h_10 (h.1 + 0) = cA 0 17 (fun _ => 0) := (x4_10 _ (by omega)).trans ha0_9
  have ha1_10 : gt h_10 (h.1 + 1) = cA 0 17 (fun _ => 0) := by rw [← hn_9]; exact x3_10
  have hf_10 : ∀ B, B ≠ b → (B < h.1 ∨ h.1 + 13 ≤ B) → gt h_10 B = gt h B := fun B q1 q2 => (x4_10 B (by omega)).trans (hf_9 B q1 q2)
  rw [show h_9.1 = h.1 + 1 from hn_9]
  refine xh_put (dg dc7 30 rfl) rfl (by omega) hg_10 rfl rfl (fun h_11 e_11 => ?_)
  obtain ⟨x1_11, x2_11, x3_11, x4_11⟩ := e_11
  have hn_11 : h_11.1 = h.1 + 2 := by rw [x1_11, hn_10]
  have hs_11 : h_11.2.1 = h.2.1 + 34 := by rw [x2_11, hs_10]
  have hg_11 : gt h_11 b = cO 1 [vI 0, vI 0, vI 0, vI 0, vI 0, vI 0, vI 0, vR (h.1 + 0), vR (h.1 + 1), vN, vN, vN, vN, vN, vN, vN, vN, vN, vN, vN] := x3_11
  have ha0_11 : gt h_11 (h.1 + 0) = cA 0 17 (fun _ => 0) := (x4_11 _ (by omega)).trans ha0_10
  have ha1_11 : gt h_11 (h.1 + 1) = cA 0 17 (fun _ => 0) := (x4_11 _ (by omega)).trans ha1_10
  have hf_11 : ∀ B, B ≠ b → (B < h.1 ∨ h.1 + 13 ≤ B) → gt h_11 B = gt h B := fun B q1 q2 => (x4_11 B q1).trans (hf_10 B q1 q2)
  refine xh_pu (ls' := [vR b]) (st' := [vR b]) (dg dc7 31 rfl) rfl rfl ?_
  refine xh_pu (ls' := [vR b]) (st' := [vI 10, vR b]) (dg dc7 32 rfl) rfl rfl ?_
  refine xh_newa (n9 := 10) (dg dc7 33 rfl) rfl rfl (fun h_12 e_12 => ?_)
  obtain ⟨x1_12, x2_12, x3_12, x4_12⟩ := e_12
  have hn_12 : h_12.1 = h.1 + 3 := by rw [x1_12, hn_11]
  have hs_12 : h_12.2.1 = h.2.1 + 44 := by rw [x2_12, hs_11]
  have hg_12 : gt h_12 b = cO 1 [vI 0, vI 0, vI 0, vI 0, vI 0, vI 0, vI 0, vR (h.1 + 0), vR (h.1 + 1), vN, vN, vN, vN, vN, vN, vN, vN, vN, vN, vN] := (x4_12 b (by omega)).trans hg_11
  have ha0_12 : gt h_12 (h.1 + 0) = cA 0 17 (fun _ => 0) := (x4_12 _ (by omega)).trans ha0_11
  have ha1_12 : gt h_12 (h.1 + 1) = cA 0 17 (fun _ => 0) := (x4_12 _ (by omega)).trans ha1_11
  have ha2_12 : gt h_12 (h.1 + 2) = cA 0 10 (fun _ => 0) := by rw [← hn_11]; exact x3_12
  have hf_12 : ∀ B, B ≠ b → (B < h.1 ∨ h.1 + 13 ≤ B) → gt h_12 B = gt h B := fun B q1 q2 => (x4_12 B (by omega)).trans (hf_11 B q1 q2)
  rw [show h_11.1 = h.1 + 2 from hn_11]
  refine xh_put (dg dc7 34 rfl) rfl (by omega) hg_12 rfl rfl (fun h_13 e_13 => ?_)
  obtain ⟨x1_13, x2_13, x3_13, x4_13⟩ := e_13
  have hn_13 : h_13.1 = h.1 + 3 := by rw [x1_13, hn_12]
  have hs_13 : h_13.2.1 = h.2.1 + 44 := by rw [x2_13, hs_12]
  have hg_13 : gt h_13 b = cO 1 [vI 0, vI 0, vI 0, vI 0, vI 0, vI 0, vI 0, vR (h.1 + 0), vR (h.1 + 1), vR (h.1 + 2), vN, vN, vN, vN, vN, vN, vN, vN, vN, vN] := x3_13
  have ha0_13 : gt h_13 (h.1 + 0) = cA 0 17 (fun _ => 0) := (x4_13 _ (by omega)).trans ha0_12
  have ha1_13 : gt h_13 (h.1 + 1) = cA 0 17 (fun _ => 0) := (x4_13 _ (by omega)).trans ha1_12
  have ha2_13 : gt h_13 (h.1 + 2) = cA 0 10 (fun _ => 0) := (x4_13 _ (by omega)).trans ha2_12
  have hf_13 : ∀ B, B ≠ b → (B < h.1 ∨ h.1 + 13 ≤ B) → gt h_13 B = gt h B := fun B q1 q2 => (x4_13 B q1).trans (hf_12 B q1 q2)
  refine xh_pu (ls' := [vR b]) (st' := [vR b]) (dg dc7 35 rfl) rfl rfl ?_
  refine xh_pu (ls' := [vR b]) (st' := [vI 10, vR b]) (dg dc7 36 rfl) rfl rfl ?_
  refine xh_newa (n9 := 10) (dg dc7 37 rfl) rfl rfl (fun h_14 e_14 => ?_)
  obtain ⟨x1_14, x2_14, x3_14, x4_14⟩ := e_14
  have hn_14 : h_14.1 = h.1 + 4 := by rw [x1_14, hn_13]
  have hs_14 : h_14.2.1 = h.2.1 + 54 := by rw [x2_14, hs_13]
  have hg_14 : gt h_14 b = cO 1 [vI 0, vI 0, vI 0, vI 0, vI 0, vI 0, vI 0, vR (h.1 + 0), vR (h.1 + 1), vR (h.1 + 2), vN, vN, vN, vN, vN, vN, vN, vN, vN, vN] := (x4_14 b (by omega)).trans hg_13
  have ha0_14 : gt h_14 (h.1 + 0) = cA 0 17 (fun _ => 0) := (x4_14 _ (by omega)).trans ha0_13
  have ha1_14 : gt h_14 (h.1 + 1) = cA 0 17 (fun _ => 0) := (x4_14 _ (by omega)).trans ha1_13
  have ha2_14 : gt h_14 (h.1 + 2) = cA 0 10 (fun _ => 0) := (x4_14 _ (by omega)).trans ha2_13
  have ha3_14 : gt h_14 (h.1 + 3) = cA 0 10 (fun _ => 0) := by rw [← hn_13]; exact x3_14
  have hf_14 : ∀ B, B ≠ b → (B < h.1 ∨ h.1 + 13 ≤ B) → gt h_14 B = gt h B := fun B q1 q2 => (x4_14 B (by omega)).trans (hf_13 B q1 q2)
  rw [show h_13.1 = h.1 + 3 from hn_13]
  refine xh_put (dg dc7 38 rfl) rfl (by omega) hg_14 rfl rfl (fun h_15 e_15 => ?_)
  obtain ⟨x1_15, x2_15, x3_15, x4_15⟩ := e_15
  have hn_15 : h_15.1 = h.1 + 4 := by rw [x1_15, hn_14]
  have hs_15 : h_15.2.1 = h.2.1 + 54 := by rw [x2_15, hs_14]
  have hg_15 : gt h_15 b = cO 1 [vI 0, vI 0, vI 0, vI 0, vI 0, vI 0, vI 0, vR (h.1 + 0), vR (h.1 + 1), vR (h.1 + 2), vR (h.1 + 3), vN, vN, vN, vN, vN, vN, vN, vN, vN] := x3_15
  have ha0_15 : gt h_15 (h.1 + 0) = cA 0 17 (fun _ => 0) := (x4_15 _ (by omega)).trans ha0_14
  have ha1_15 : gt h_15 (h.1 + 1) = cA 0 17 (fun _ => 0) := (x4_15 _ (by omega)).trans ha1_14
  have ha2_15 : gt h_15 (h.1 + 2) = cA 0 10 (fun _ => 0) := (x4_15 _ (by omega)).trans ha2_14
  have ha3_15 : gt h_15 (h.1 + 3) = cA 0 10 (fun _ => 0) := (x4_15 _ (by omega)).trans ha3_14
  have hf_15 : ∀ B, B ≠ b → (B < h.1 ∨ h.1 + 13 ≤ B) → gt h_15 B = gt h B := fun B q1 q2 => (x4_15 B q1).trans (hf_14 B q1 q2)
  refine xh_pu (ls' := [vR b]) (st' := [vR b]) (dg dc7 39 rfl) rfl rfl ?_
  refine xh_pu (ls' := [vR b]) (st' := [vI 10, vR b]) (dg dc7 40 rfl) rfl rfl ?_
  refine xh_newa (n9 := 10) (dg dc7 41 rfl) rfl rfl (fun h_16 e_16 => ?_)
  obtain ⟨x1_16, x2_16, x3_16, x4_16⟩ := e_16
  have hn_16 : h_16.1 = h.1 + 5 := by rw [x1_16, hn_15]
  have hs_16 : h_16.2.1 = h.2.1 + 64 := by rw [x2_16, hs_15]
  have hg_16 : gt h_16 b = cO 1 [vI 0, vI 0, vI 0, vI 0, vI 0, vI 0, vI 0, vR (h.1 + 0), vR (h.1 + 1), vR (h.1 + 2), vR (h.1 + 3), vN, vN, vN, vN, vN, vN, vN, vN, vN] := (x4_16 b (by omega)).trans hg_15
  have ha0_16 : gt h_16 (h.1 + 0) = cA 0 17 (fun _ => 0) := (x4_16 _ (by omega)).trans ha0_15
  have ha1_16 : gt h_16 (h.1 + 1) = cA 0 17 (fun _ => 0) := (x4_16 _ (by omega)).trans ha1_15
  have ha2_16 : gt h_16 (h.1 + 2) = cA 0 10 (fun _ => 0) := (x4_16 _ (by omega)).trans ha2_15
  have ha3_16 : gt h_16 (h.1 + 3) = cA 0 10 (fun _ => 0) := (x4_16 _ (by omega)).trans ha3_15
  have ha4_16 : gt h_16 (h.1 + 4) = cA 0 10 (fun _ => 0) := by rw [← hn_15]; exact x3_16
  have hf_16 : ∀ B, B ≠ b → (B < h.1 ∨ h.1 + 13 ≤ B) → gt h_16 B = gt h B := fun B q1 q2 => (x4_16 B (by omega)).trans (hf_15 B q1 q2)
  rw [show h_15.1 = h.1 + 4 from hn_15]
  refine xh_put (dg dc7 42 rfl) rfl (by omega) hg_16 rfl rfl (fun h_17 e_17 => ?_)
  obtain ⟨x1_17, x2_17, x3_17, x4_17⟩ := e_17
  have hn_17 : h_17.1 = h.1 + 5 := by rw [x1_17, hn_16]
  have hs_17 : h_17.2.1 = h.2.1 + 64 := by rw [x2_17, hs_16]
  have hg_17 : gt h_17 b = cO 1 [vI 0, vI 0, vI 0, vI 0, vI 0, vI 0, vI 0, vR (h.1 + 0), vR (h.1 + 1), vR (h.1 + 2), vR (h.1 + 3), vR (h.1 + 4), vN, vN, vN, vN, vN, vN, vN, vN] := x3_17
  have ha0_17 : gt h_17 (h.1 + 0) = cA 0 17 (fun _ => 0) := (x4_17 _ (by omega)).trans ha0_16
  have ha1_17 : gt h_17 (h.1 + 1) = cA 0 17 (fun _ => 0) := (x4_17 _ (by omega)).trans ha1_16
  have ha2_17 : gt h_17 (h.1 + 2) = cA 0 10 (fun _ => 0) := (x4_17 _ (by omega)).trans ha2_16
  have ha3_17 : gt h_17 (h.1 + 3) = cA 0 10 (fun _ => 0) := (x4_17 _ (by omega)).trans ha3_16
  have ha4_17 : gt h_17 (h.1 + 4) = cA 0 10 (fun _ => 0) := (x4_17 _ (by omega)).trans ha4_16
  have hf_17 : ∀ B, B ≠ b → (B < h.1 ∨ h.1 + 13 ≤ B) → gt h_17 B = gt h B := fun B q1 q2 => (x4_17 B q1).trans (hf_16 B q1 q2)
  refine xh_pu (ls' := [vR b]) (st' := [vR b]) (dg dc7 43 rfl) rfl rfl ?_
  refine xh_pu (ls' := [vR b]) (st' := [vI 10, vR b]) (dg dc7 44 rfl) rfl rfl ?_
  refine xh_newa (n9 := 10) (dg dc7 45 rfl) rfl rfl (fun h_18 e_18 => ?_)
  obtain ⟨x1_18, x2_18, x3_18, x4_18⟩ := e_18
  have hn_18 : h_18.1 = h.1 + 6 := by rw [x1_18, hn_17]
  have hs_18 : h_18.2.1 = h.2.1 + 74 := by rw [x2_18, hs_17]
  have hg_18 : gt h_18 b = cO 1 [vI 0, vI 0, vI 0, vI 0, vI 0, vI 0, vI 0, vR (h.1 + 0), vR (h.1 + 1), vR (h.1 + 2), vR (h.1 + 3), vR (h.1 + 4), vN, vN, vN, vN, vN, vN, vN, vN] := (x4_18 b (by omega)).trans hg_17
  have ha0_18 : gt h_18 (h.1 + 0) = cA 0 17 (fun _ => 0) := (x4_18 _ (by omega)).trans ha0_17
  have ha1_18 : gt h_18 (h.1 + 1) = cA 0 17 (fun _ => 0) := (x4_18 _ (by omega)).trans ha1_17
  have ha2_18 : gt h_18 (h.1 + 2) = cA 0 10 (fun _ => 0) := (x4_18 _ (by omega)).trans ha2_17
  have ha3_18 : gt h_18 (h.1 + 3) = cA 0 10 (fun _ => 0) := (x4_18 _ (by omega)).trans ha3_17
  have ha4_18 : gt h_18 (h.1 + 4) = cA 0 10 (fun _ => 0) := (x4_18 _ (by omega)).trans ha4_17
  have ha5_18 : gt h_18 (h.1 + 5) = cA 0 10 (fun _ => 0) := by rw [← hn_17]; exact x3_18
  have hf_18 : ∀ B, B ≠ b → (B < h.1 ∨ h.1 + 13 ≤ B) → gt h_18 B = gt h B := fun B q1 q2 => (x4_18 B (by omega)).trans (hf_17 B q1 q2)
  rw [show h_17.1 = h.1 + 5 from hn_17]
  refine xh_put (dg dc7 46 rfl) rfl (by omega) hg_18 rfl rfl (fun h_19 e_19 => ?_)
  obtain ⟨x1_19, x2_19, x3_19, x4_19⟩ := e_19
  have hn_19 : h_19.1 = h.1 + 6 := by rw [x1_19, hn_18]
  have hs_19 : h_19.2.1 = h.2.1 + 74 := by rw [x2_19, hs_18]
  have hg_19 : gt h_19 b = cO 1 [vI 0, vI 0, vI 0, vI 0, vI 0, vI 0, vI 0, vR (h.1 + 0), vR (h.1 + 1), vR (h.1 + 2), vR (h.1 + 3), vR (h.1 + 4), vR (h.1 + 5), vN, vN, vN, vN, vN, vN, vN] := x3_19
  have ha0_19 : gt h_19 (h.1 + 0) = cA 0 17 (fun _ => 0) := (x4_19 _ (by omega)).trans ha0_18
  have ha1_19 : gt h_19 (h.1 + 1) = cA 0 17 (fun _ => 0) := (x4_19 _ (by omega)).trans ha1_18
  have ha2_19 : gt h_19 (h.1 + 2) = cA 0 10 (fun _ => 0) := (x4_19 _ (by omega)).trans ha2_18
  have ha3_19 : gt h_19 (h.1 + 3) = cA 0 10 (fun _ => 0) := (x4_19 _ (by omega)).trans ha3_18
  have ha4_19 : gt h_19 (h.1 + 4) = cA 0 10 (fun _ => 0) := (x4_19 _ (by omega)).trans ha4_18
  have ha5_19 : gt h_19 (h.1 + 5) = cA 0 10 (fun _ => 0) := (x4_19 _ (by omega)).trans ha5_18
  have hf_19 : ∀ B, B ≠ b → (B < h.1 ∨ h.1 + 13 ≤ B) → gt h_19 B = gt h B := fun B q1 q2 => (x4_19 B q1).trans (hf_18 B q1 q2)
  refine xh_pu (ls' := [vR b]) (st' := [vR b]) (dg dc7 47 rfl) rfl rfl ?_
  refine xh_pu (ls' := [vR b]) (st' := [vI 10, vR b]) (dg dc7 48 rfl) rfl rfl ?_
  refine xh_newa (n9 := 10) (dg dc7 49 rfl) rfl rfl (fun h_20 e_20 => ?_)
  obtain ⟨x1_20, x2_20, x3_20, x4_20⟩ := e_20
  have hn_20 : h_20.1 = h.1 + 7 := by rw [x1_20, hn_19]
  have hs_20 : h_20.2.1 = h.2.1 + 84 := by rw [x2_20, hs_19]
  have hg_20 : gt h_20 b = cO 1 [vI 0, vI 0, vI 0, vI 0, vI 0, vI 0, vI 0, vR (h.1 + 0), vR (h.1 + 1), vR (h.1 + 2), vR (h.1 + 3), vR (h.1 + 4), vR (h.1 + 5), vN, vN, vN, vN, vN, vN, vN] := (x4_20 b (by omega)).trans hg_19
  have ha0_20 : gt h_20 (h.1 + 0) = cA 0 17 (fun _ => 0) := (x4_20 _ (by omega)).trans ha0_19
  have ha1_20 : gt h_20 (h.1 + 1) = cA 0 17 (fun _ => 0) := (x4_20 _ (by omega)).trans ha1_19
  have ha2_20 : gt h_20 (h.1 + 2) = cA 0 10 (fun _ => 0) := (x4_20 _ (by omega)).trans ha2_19
  have ha3_20 : gt h_20 (h.1 + 3) = cA 0 10 (fun _ => 0) := (x4_20 _ (by omega)).trans ha3_19
  have ha4_20 : gt h_20 (h.1 + 4) = cA 0 10 (fun _ => 0) := (x4_20 _ (by omega)).trans ha4_19
  have ha5_20 : gt h_20 (h.1 + 5) = cA 0 10 (fun _ => 0) := (x4_20 _ (by omega)).trans ha5_19
  have ha6_20 : gt h_20 (h.1 + 6) = cA 0 10 (fun _ => 0) := by rw [← hn_19]; exact x3_20
  have hf_20 : ∀ B, B ≠ b → (B < h.1 ∨ h.1 + 13 ≤ B) → gt h_20 B = gt h B := fun B q1 q2 => (x4_20 B (by omega)).trans (hf_19 B q1 q2)
  rw [show h_19.1 = h.1 + 6 from hn_19]
  refine xh_put (dg dc7 50 rfl) rfl (by omega) hg_20 rfl rfl (fun h_21 e_21 => ?_)
  obtain ⟨x1_21, x2_21, x3_21, x4_21⟩ := e_21
  have hn_21 : h_21.1 = h.1 + 7 := by rw [x1_21, hn_20]
  have hs_21 : h_21.2.1 = h.2.1 + 84 := by rw [x2_21, hs_20]
  have hg_21 : gt h_21 b = cO 1 [vI 0, vI 0, vI 0, vI 0, vI 0, vI 0, vI 0, vR (h.1 + 0), vR (h.1 + 1), vR (h.1 + 2), vR (h.1 + 3), vR (h.1 + 4), vR (h.1 + 5), vR (h.1 + 6), vN, vN, vN, vN, vN, vN] := x3_21
  have ha0_21 : gt h_21 (h.1 + 0) = cA 0 17 (fun _ => 0) := (x4_21 _ (by omega)).trans ha0_20
  have ha1_21 : gt h_21 (h.1 + 1) = cA 0 17 (fun _ => 0) := (x4_21 _ (by omega)).trans ha1_20
  have ha2_21 : gt h_21 (h.1 + 2) = cA 0 10 (fun _ => 0) := (x4_21 _ (by omega)).trans ha2_20
  have ha3_21 : gt h_21 (h.1 + 3) = cA 0 10 (fun _ => 0) := (x4_21 _ (by omega)).trans ha3_20
  have ha4_21 : gt h_21 (h.1 + 4) = cA 0 10 (fun _ => 0) := (x4_21 _ (by omega)).trans ha4_20
  have ha5_21 : gt h_21 (h.1 + 5) = cA 0 10 (fun _ => 0) := (x4_21 _ (by omega)).trans ha5_20
  have ha6_21 : gt h_21 (h.1 + 6) = cA 0 10 (fun _ => 0) := (x4_21 _ (by omega)).trans ha6_20
  have hf_21 : ∀ B, B ≠ b → (B < h.1 ∨ h.1 + 13 ≤ B) → gt h_21 B = gt h B := fun B q1 q2 => (x4_21 B q1).trans (hf_20 B q1 q2)
  refine xh_pu (ls' := [vR b]) (st' := [vR b]) (dg dc7 51 rfl) rfl rfl ?_
  refine xh_pu (ls' := [vR b]) (st' := [vI 32, vR b]) (dg dc7 52 rfl) rfl rfl ?_
  refine xh_newa (n9 := 32) (dg dc7 53 rfl) rfl rfl (fun h_22 e_22 => ?_)
  obtain ⟨x1_22, x2_22, x3_22, x4_22⟩ := e_22
  have hn_22 : h_22.1 = h.1 + 8 := by rw [x1_22, hn_21]
  have hs_22 : h_22.2.1 = h.2.1 + 116 := by rw [x2_22, hs_21]
  have hg_22 : gt h_22 b = cO 1 [vI 0, vI 0, vI 0, vI 0, vI 0, vI 0, vI 0, vR (h.1 + 0), vR (h.1 + 1), vR (h.1 + 2), vR (h.1 + 3), vR (h.1 + 4), vR (h.1 + 5), vR (h.1 + 6), vN, vN, vN, vN, vN, vN] := (x4_22 b (by omega)).trans hg_21
  have ha0_22 : gt h_22 (h.1 + 0) = cA 0 17 (fun _ => 0) := (x4_22 _ (by omega)).trans ha0_21
  have ha1_22 : gt h_22 (h.1 + 1) = cA 0 17 (fun _ => 0) := (x4_22 _ (by omega)).trans ha1_21
  have ha2_22 : gt h_22 (h.1 + 2) = cA 0 10 (fun _ => 0) := (x4_22 _ (by omega)).trans ha2_21
  have ha3_22 : gt h_22 (h.1 + 3) = cA 0 10 (fun _ => 0) := (x4_22 _ (by omega)).trans ha3_21
  have ha4_22 : gt h_22 (h.1 + 4) = cA 0 10 (fun _ => 0) := (x4_22 _ (by omega)).trans ha4_21
  have ha5_22 : gt h_22 (h.1 + 5) = cA 0 10 (fun _ => 0) := (x4_22 _ (by omega)).trans ha5_21
  have ha6_22 : gt h_22 (h.1 + 6) = cA 0 10 (fun _ => 0) := (x4_22 _ (by omega)).trans ha6_21
  have ha7_22 : gt h_22 (h.1 + 7) = cA 0 32 (fun _ => 0) := by rw [← hn_21]; exact x3_22
  have hf_22 : ∀ B, B ≠ b → (B < h.1 ∨ h.1 + 13 ≤ B) → gt h_22 B = gt h B := fun B q1 q2 => (x4_22 B (by omega)).trans (hf_21 B q1 q2)
  rw [show h_21.1 = h.1 + 7 from hn_21]
  refine xh_put (dg dc7 54 rfl) rfl (by omega) hg_22 rfl rfl (fun h_23 e_23 => ?_)
  obtain ⟨x1_23, x2_23, x3_23, x4_23⟩ := e_23
  have hn_23 : h_23.1 = h.1 + 8 := by rw [x1_23, hn_22]
  have hs_23 : h_23.2.1 = h.2.1 + 116 := by rw [x2_23, hs_22]
  have hg_23 : gt h_23 b = cO 1 [vI 0, vI 0, vI 0, vI 0, vI 0, vI 0, vI 0, vR (h.1 + 0), vR (h.1 + 1), vR (h.1 + 2), vR (h.1 + 3), vR (h.1 + 4), vR (h.1 + 5), vR (h.1 + 6), vR (h.1 + 7), vN, vN, vN, vN, vN] := x3_23
  have ha0_23 : gt h_23 (h.1 + 0) = cA 0 17 (fun _ => 0) := (x4_23 _ (by omega)).trans ha0_22
  have ha1_23 : gt h_23 (h.1 + 1) = cA 0 17 (fun _ => 0) := (x4_23 _ (by omega)).trans ha1_22
  have ha2_23 : gt h_23 (h.1 + 2) = cA 0 10 (fun _ => 0) := (x4_23 _ (by omega)).trans ha2_22
  have ha3_23 : gt h_23 (h.1 + 3) = cA 0 10 (fun _ => 0) := (x4_23 _ (by omega)).trans ha3_22
  have ha4_23 : gt h_23 (h.1 + 4) = cA 0 10 (fun _ => 0) := (x4_23 _ (by omega)).trans ha4_22
  have ha5_23 : gt h_23 (h.1 + 5) = cA 0 10 (fun _ => 0) := (x4_23 _ (by omega)).trans ha5_22
  have ha6_23 : gt h_23 (h.1 + 6) = cA 0 10 (fun _ => 0) := (x4_23 _ (by omega)).trans ha6_22
  have ha7_23 : gt h_23 (h.1 + 7) = cA 0 32 (fun _ => 0) := (x4_23 _ (by omega)).trans ha7_22
  have hf_23 : ∀ B, B ≠ b → (B < h.1 ∨ h.1 + 13 ≤ B) → gt h_23 B = gt h B := fun B q1 q2 => (x4_23 B q1).trans (hf_22 B q1 q2)
  refine xh_pu (ls' := [vR b]) (st' := [vR b]) (dg dc7 55 rfl) rfl rfl ?_
  refine xh_pu (ls' := [vR b]) (st' := [vI 16, vR b]) (dg dc7 56 rfl) rfl rfl ?_
  refine xh_newa (n9 := 16) (dg dc7 57 rfl) rfl rfl (fun h_24 e_24 => ?_)
  obtain ⟨x1_24, x2_24, x3_24, x4_24⟩ := e_24
  have hn_24 : h_24.1 = h.1 + 9 := by rw [x1_24, hn_23]
  have hs_24 : h_24.2.1 = h.2.1 + 132 := by rw [x2_24, hs_23]
  have hg_24 : gt h_24 b = cO 1 [vI 0, vI 0, vI 0, vI 0, vI 0, vI 0, vI 0, vR (h.1 + 0), vR (h.1 + 1), vR (h.1 + 2), vR (h.1 + 3), vR (h.1 + 4), vR (h.1 + 5), vR (h.1 + 6), vR (h.1 + 7), vN, vN, vN, vN, vN] := (x4_24 b (by omega)).trans hg_23
  have ha0_24 : gt h_24 (h.1 + 0) = cA 0 17 (fun _ => 0) := (x4_24 _ (by omega)).trans ha0_23
  have ha1_24 : gt h_24 (h.1 + 1) = cA 0 17 (fun _ => 0) := (x4_24 _ (by omega)).trans ha1_23
  have ha2_24 : gt h_24 (h.1 + 2) = cA 0 10 (fun _ => 0) := (x4_24 _ (by omega)).trans ha2_23
  have ha3_24 : gt h_24 (h.1 + 3) = cA 0 10 (fun _ => 0) := (x4_24 _ (by omega)).trans ha3_23
  have ha4_24 : gt h_24 (h.1 + 4) = cA 0 10 (fun _ => 0) := (x4_24 _ (by omega)).trans ha4_23
  have ha5_24 : gt h_24 (h.1 + 5) = cA 0 10 (fun _ => 0) := (x4_24 _ (by omega)).trans ha5_23
  have ha6_24 : gt h_24 (h.1 + 6) = cA 0 10 (fun _ => 0) := (x4_24 _ (by omega)).trans ha6_23
  have ha7_24 : gt h_24 (h.1 + 7) = cA 0 32 (fun _ => 0) := (x4_24 _ (by omega)).trans ha7_23
  have ha8_24 : gt h_24 (h.1 + 8) = cA 0 16 (fun _ => 0) := by rw [← hn_23]; exact x3_24
  have hf_24 : ∀ B, B ≠ b → (B < h.1 ∨ h.1 + 13 ≤ B) → gt h_24 B = gt h B := fun B q1 q2 => (x4_24 B (by omega)).trans (hf_23 B q1 q2)
  rw [show h_23.1 = h.1 + 8 from hn_23]
  refine xh_put (dg dc7 58 rfl) rfl (by omega) hg_24 rfl rfl (fun h_25 e_25 => ?_)
  obtain ⟨x1_25, x2_25, x3_25, x4_25⟩ := e_25
  have hn_25 : h_25.1 = h.1 + 9 := by rw [x1_25, hn_24]
  have hs_25 : h_25.2.1 = h.2.1 + 132 := by rw [x2_25, hs_24]
  have hg_25 : gt h_25 b = cO 1 [vI 0, vI 0, vI 0, vI 0, vI 0, vI 0, vI 0, vR (h.1 + 0), vR (h.1 + 1), vR (h.1 + 2), vR (h.1 + 3), vR (h.1 + 4), vR (h.1 + 5), vR (h.1 + 6), vR (h.1 + 7), vR (h.1 + 8), vN, vN, vN, vN] := x3_25
  have ha0_25 : gt h_25 (h.1 + 0) = cA 0 17 (fun _ => 0) := (x4_25 _ (by omega)).trans ha0_24
  have ha1_25 : gt h_25 (h.1 + 1) = cA 0 17 (fun _ => 0) := (x4_25 _ (by omega)).trans ha1_24
  have ha2_25 : gt h_25 (h.1 + 2) = cA 0 10 (fun _ => 0) := (x4_25 _ (by omega)).trans ha2_24
  have ha3_25 : gt h_25 (h.1 + 3) = cA 0 10 (fun _ => 0) := (x4_25 _ (by omega)).trans ha3_24
  have ha4_25 : gt h_25 (h.1 + 4) = cA 0 10 (fun _ => 0) := (x4_25 _ (by omega)).trans ha4_24
  have ha5_25 : gt h_25 (h.1 + 5) = cA 0 10 (fun _ => 0) := (x4_25 _ (by omega)).trans ha5_24
  have ha6_25 : gt h_25 (h.1 + 6) = cA 0 10 (fun _ => 0) := (x4_25 _ (by omega)).trans ha6_24
  have ha7_25 : gt h_25 (h.1 + 7) = cA 0 32 (fun _ => 0) := (x4_25 _ (by omega)).trans ha7_24
  have ha8_25 : gt h_25 (h.1 + 8) = cA 0 16 (fun _ => 0) := (x4_25 _ (by omega)).trans ha8_24
  have hf_25 : ∀ B, B ≠ b → (B < h.1 ∨ h.1 + 13 ≤ B) → gt h_25 B = gt h B := fun B q1 q2 => (x4_25 B q1).trans (hf_24 B q1 q2)
  refine xh_pu (ls' := [vR b]) (st' := [vR b]) (dg dc7 59 rfl) rfl rfl ?_
  refine xh_pu (ls' := [vR b]) (st' := [vI 16, vR b]) (dg dc7 60 rfl) rfl rfl ?_
  refine xh_newa (n9 := 16) (dg dc7 61 rfl) rfl rfl (fun h_26 e_26 => ?_)
  obtain ⟨x1_26, x2_26, x3_26, x4_26⟩ := e_26
  have hn_26 : h_26.1 = h.1 + 10 := by rw [x1_26, hn_25]
  have hs_26 : h_26.2.1 = h.2.1 + 148 := by rw [x2_26, hs_25]
  have hg_26 : gt h_26 b = cO 1 [vI 0, vI 0, vI 0, vI 0, vI 0, vI 0, vI 0, vR (h.1 + 0), vR (h.1 + 1), vR (h.1 + 2), vR (h.1 + 3), vR (h.1 + 4), vR (h.1 + 5), vR (h.1 + 6), vR (h.1 + 7), vR (h.1 + 8), vN, vN, vN, vN] := (x4_26 b (by omega)).trans hg_25
  have ha0_26 : gt h_26 (h.1 + 0) = cA 0 17 (fun _ => 0) := (x4_26 _ (by omega)).trans ha0_25
  have ha1_26 : gt h_26 (h.1 + 1) = cA 0 17 (fun _ => 0) := (x4_26 _ (by omega)).trans ha1_25
  have ha2_26 : gt h_26 (h.1 + 2) = cA 0 10 (fun _ => 0) := (x4_26 _ (by omega)).trans ha2_25
  have ha3_26 : gt h_26 (h.1 + 3) = cA 0 10 (fun _ => 0) := (x4_26 _ (by omega)).trans ha3_25
  have ha4_26 : gt h_26 (h.1 + 4) = cA 0 10 (fun _ => 0) := (x4_26 _ (by omega)).trans ha4_25
  have ha5_26 : gt h_26 (h.1 + 5) = cA 0 10 (fun _ => 0) := (x4_26 _ (by omega)).trans ha5_25
  have ha6_26 : gt h_26 (h.1 + 6) = cA 0 10 (fun _ => 0) := (x4_26 _ (by omega)).trans ha6_25
  have ha7_26 : gt h_26 (h.1 + 7) = cA 0 32 (fun _ => 0) := (x4_26 _ (by omega)).trans ha7_25
  have ha8_26 : gt h_26 (h.1 + 8) = cA 0 16 (fun _ => 0) := (x4_26 _ (by omega)).trans ha8_25
  have ha9_26 : gt h_26 (h.1 + 9) = cA 0 16 (fun _ => 0) := by rw [← hn_25]; exact x3_26
  have hf_26 : ∀ B, B ≠ b → (B < h.1 ∨ h.1 + 13 ≤ B) → gt h_26 B = gt h B := fun B q1 q2 => (x4_26 B (by omega)).trans (hf_25 B q1 q2)
  rw [show h_25.1 = h.1 + 9 from hn_25]
  refine xh_put (dg dc7 62 rfl) rfl (by omega) hg_26 rfl rfl (fun h_27 e_27 => ?_)
  obtain ⟨x1_27, x2_27, x3_27, x4_27⟩ := e_27
  have hn_27 : h_27.1 = h.1 + 10 := by rw [x1_27, hn_26]
  have hs_27 : h_27.2.1 = h.2.1 + 148 := by rw [x2_27, hs_26]
  have hg_27 : gt h_27 b = cO 1 [vI 0, vI 0, vI 0, vI 0, vI 0, vI 0, vI 0, vR (h.1 + 0), vR (h.1 + 1), vR (h.1 + 2), vR (h.1 + 3), vR (h.1 + 4), vR (h.1 + 5), vR (h.1 + 6), vR (h.1 + 7), vR (h.1 + 8), vR (h.1 + 9), vN, vN, vN] := x3_27
  have ha0_27 : gt h_27 (h.1 + 0) = cA 0 17 (fun _ => 0) := (x4_27 _ (by omega)).trans ha0_26
  have ha1_27 : gt h_27 (h.1 + 1) = cA 0 17 (fun _ => 0) := (x4_27 _ (by omega)).trans ha1_26
  have ha2_27 : gt h_27 (h.1 + 2) = cA 0 10 (fun _ => 0) := (x4_27 _ (by omega)).trans ha2_26
  have ha3_27 : gt h_27 (h.1 + 3) = cA 0 10 (fun _ => 0) := (x4_27 _ (by omega)).trans ha3_26
  have ha4_27 : gt h_27 (h.1 + 4) = cA 0 10 (fun _ => 0) := (x4_27 _ (by omega)).trans ha4_26
  have ha5_27 : gt h_27 (h.1 + 5) = cA 0 10 (fun _ => 0) := (x4_27 _ (by omega)).trans ha5_26
  have ha6_27 : gt h_27 (h.1 + 6) = cA 0 10 (fun _ => 0) := (x4_27 _ (by omega)).trans ha6_26
  have ha7_27 : gt h_27 (h.1 + 7) = cA 0 32 (fun _ => 0) := (x4_27 _ (by omega)).trans ha7_26
  have ha8_27 : gt h_27 (h.1 + 8) = cA 0 16 (fun _ => 0) := (x4_27 _ (by omega)).trans ha8_26
  have ha9_27 : gt h_27 (h.1 + 9) = cA 0 16 (fun _ => 0) := (x4_27 _ (by omega)).trans ha9_26
  have hf_27 : ∀ B, B ≠ b → (B < h.1 ∨ h.1 + 13 ≤ B) → gt h_27 B = gt h B := fun B q1 q2 => (x4_27 B q1).trans (hf_26 B q1 q2)
  refine xh_pu (ls' := [vR b]) (st' := [vR b]) (dg dc7 63 rfl) rfl rfl ?_
  refine xh_pu (ls' := [vR b]) (st' := [vI 7, vR b]) (dg dc7 64 rfl) rfl rfl ?_
  refine xh_newa (n9 := 7) (dg dc7 65 rfl) rfl rfl (fun h_28 e_28 => ?_)
  obtain ⟨x1_28, x2_28, x3_28, x4_28⟩ := e_28
  have hn_28 : h_28.1 = h.1 + 11 := by rw [x1_28, hn_27]
  have hs_28 : h_28.2.1 = h.2.1 + 155 := by rw [x2_28, hs_27]
  have hg_28 : gt h_28 b = cO 1 [vI 0, vI 0, vI 0, vI 0, vI 0, vI 0, vI 0, vR (h.1 + 0), vR (h.1 + 1), vR (h.1 + 2), vR (h.1 + 3), vR (h.1 + 4), vR (h.1 + 5), vR (h.1 + 6), vR (h.1 + 7), vR (h.1 + 8), vR (h.1 + 9), vN, vN, vN] := (x4_28 b (by omega)).trans hg_27
  have ha0_28 : gt h_28 (h.1 + 0) = cA 0 17 (fun _ => 0) := (x4_28 _ (by omega)).trans ha0_27
  have ha1_28 : gt h_28 (h.1 + 1) = cA 0 17 (fun _ => 0) := (x4_28 _ (by omega)).trans ha1_27
  have ha2_28 : gt h_28 (h.1 + 2) = cA 0 10 (fun _ => 0) := (x4_28 _ (by omega)).trans ha2_27
  have ha3_28 : gt h_28 (h.1 + 3) = cA 0 10 (fun _ => 0) := (x4_28 _ (by omega)).trans ha3_27
  have ha4_28 : gt h_28 (h.1 + 4) = cA 0 10 (fun _ => 0) := (x4_28 _ (by omega)).trans ha4_27
  have ha5_28 : gt h_28 (h.1 + 5) = cA 0 10 (fun _ => 0) := (x4_28 _ (by omega)).trans ha5_27
  have ha6_28 : gt h_28 (h.1 + 6) = cA 0 10 (fun _ => 0) := (x4_28 _ (by omega)).trans ha6_27
  have ha7_28 : gt h_28 (h.1 + 7) = cA 0 32 (fun _ => 0) := (x4_28 _ (by omega)).trans ha7_27
  have ha8_28 : gt h_28 (h.1 + 8) = cA 0 16 (fun _ => 0) := (x4_28 _ (by omega)).trans ha8_27
  have ha9_28 : gt h_28 (h.1 + 9) = cA 0 16 (fun _ => 0) := (x4_28 _ (by omega)).trans ha9_27
  have ha10_28 : gt h_28 (h.1 + 10) = cA 0 7 (fun _ => 0) := by rw [← hn_27]; exact x3_28
  have hf_28 : ∀ B, B ≠ b → (B < h.1 ∨ h.1 + 13 ≤ B) → gt h_28 B = gt h B := fun B q1 q2 => (x4_28 B (by omega)).trans (hf_27 B q1 q2)
  rw [show h_27.1 = h.1 + 10 from hn_27]
  refine xh_put (dg dc7 66 rfl) rfl (by omega) hg_28 rfl rfl (fun h_29 e_29 => ?_)
  obtain ⟨x1_29, x2_29, x3_29, x4_29⟩ := e_29
  have hn_29 : h_29.1 = h.1 + 11 := by rw [x1_29, hn_28]
  have hs_29 : h_29.2.1 = h.2.1 + 155 := by rw [x2_29, hs_28]
  have hg_29 : gt h_29 b = cO 1 [vI 0, vI 0, vI 0, vI 0, vI 0, vI 0, vI 0, vR (h.1 + 0), vR (h.1 + 1), vR (h.1 + 2), vR (h.1 + 3), vR (h.1 + 4), vR (h.1 + 5), vR (h.1 + 6), vR (h.1 + 7), vR (h.1 + 8), vR (h.1 + 9), vR (h.1 + 10), vN, vN] := x3_29
  have ha0_29 : gt h_29 (h.1 + 0) = cA 0 17 (fun _ => 0) := (x4_29 _ (by omega)).trans ha0_28
  have ha1_29 : gt h_29 (h.1 + 1) = cA 0 17 (fun _ => 0) := (x4_29 _ (by omega)).trans ha1_28
  have ha2_29 : gt h_29 (h.1 + 2) = cA 0 10 (fun _ => 0) := (x4_29 _ (by omega)).trans ha2_28
  have ha3_29 : gt h_29 (h.1 + 3) = cA 0 10 (fun _ => 0) := (x4_29 _ (by omega)).trans ha3_28
  have ha4_29 : gt h_29 (h.1 + 4) = cA 0 10 (fun _ => 0) := (x4_29 _ (by omega)).trans ha4_28
  have ha5_29 : gt h_29 (h.1 + 5) = cA 0 10 (fun _ => 0) := (x4_29 _ (by omega)).trans ha5_28
  have ha6_29 : gt h_29 (h.1 + 6) = cA 0 10 (fun _ => 0) := (x4_29 _ (by omega)).trans ha6_28
  have ha7_29 : gt h_29 (h.1 + 7) = cA 0 32 (fun _ => 0) := (x4_29 _ (by omega)).trans ha7_28
  have ha8_29 : gt h_29 (h.1 + 8) = cA 0 16 (fun _ => 0) := (x4_29 _ (by omega)).trans ha8_28
  have ha9_29 : gt h_29 (h.1 + 9) = cA 0 16 (fun _ => 0) := (x4_29 _ (by omega)).trans ha9_28
  have ha10_29 : gt h_29 (h.1 + 10) = cA 0 7 (fun _ => 0) := (x4_29 _ (by omega)).trans ha10_28
  have hf_29 : ∀ B, B ≠ b → (B < h.1 ∨ h.1 + 13 ≤ B) → gt h_29 B = gt h B := fun B q1 q2 => (x4_29 B q1).trans (hf_28 B q1 q2)
  refine xh_pu (ls' := [vR b]) (st' := [vR b]) (dg dc7 67 rfl) rfl rfl ?_
  refine xh_pu (ls' := [vR b]) (st' := [vI 7, vR b]) (dg dc7 68 rfl) rfl rfl ?_
  refine xh_newa (n9 := 7) (dg dc7 69 rfl) rfl rfl (fun h_30 e_30 => ?_)
  obtain ⟨x1_30, x2_30, x3_30, x4_30⟩ := e_30
  have hn_30 : h_30.1 = h.1 + 12 := by rw [x1_30, hn_29]
  have hs_30 : h_30.2.1 = h.2.1 + 162 := by rw [x2_30, hs_29]
  have hg_30 : gt h_30 b = cO 1 [vI 0, vI 0, vI 0, vI 0, vI 0, vI 0, vI 0, vR (h.1 + 0), vR (h.1 + 1), vR (h.1 + 2), vR (h.1 + 3), vR (h.1 + 4), vR (h.1 + 5), vR (h.1 + 6), vR (h.1 + 7), vR (h.1 + 8), vR (h.1 + 9), vR (h.1 + 10), vN, vN] := (x4_30 b (by omega)).trans hg_29
  have ha0_30 : gt h_30 (h.1 + 0) = cA 0 17 (fun _ => 0) := (x4_30 _ (by omega)).trans ha0_29
  have ha1_30 : gt h_30 (h.1 + 1) = cA 0 17 (fun _ => 0) := (x4_30 _ (by omega)).trans ha1_29
  have ha2_30 : gt h_30 (h.1 + 2) = cA 0 10 (fun _ => 0) := (x4_30 _ (by omega)).trans ha2_29
  have ha3_30 : gt h_30 (h.1 + 3) = cA 0 10 (fun _ => 0) := (x4_30 _ (by omega)).trans ha3_29
  have ha4_30 : gt h_30 (h.1 + 4) = cA 0 10 (fun _ => 0) := (x4_30 _ (by omega)).trans ha4_29
  have ha5_30 : gt h_30 (h.1 + 5) = cA 0 10 (fun _ => 0) := (x4_30 _ (by omega)).trans ha5_29
  have ha6_30 : gt h_30 (h.1 + 6) = cA 0 10 (fun _ => 0) := (x4_30 _ (by omega)).trans ha6_29
  have ha7_30 : gt h_30 (h.1 + 7) = cA 0 32 (fun _ => 0) := (x4_30 _ (by omega)).trans ha7_29
  have ha8_30 : gt h_30 (h.1 + 8) = cA 0 16 (fun _ => 0) := (x4_30 _ (by omega)).trans ha8_29
  have ha9_30 : gt h_30 (h.1 + 9) = cA 0 16 (fun _ => 0) := (x4_30 _ (by omega)).trans ha9_29
  have ha10_30 : gt h_30 (h.1 + 10) = cA 0 7 (fun _ => 0) := (x4_30 _ (by omega)).trans ha10_29
  have ha11_30 : gt h_30 (h.1 + 11) = cA 0 7 (fun _ => 0) := by rw [← hn_29]; exact x3_30
  have hf_30 : ∀ B, B ≠ b → (B < h.1 ∨ h.1 + 13 ≤ B) → gt h_30 B = gt h B := fun B q1 q2 => (x4_30 B (by omega)).trans (hf_29 B q1 q2)
  rw [show h_29.1 = h.1 + 11 from hn_29]
  refine xh_put (dg dc7 70 rfl) rfl (by omega) hg_30 rfl rfl (fun h_31 e_31 => ?_)
  obtain ⟨x1_31, x2_31, x3_31, x4_31⟩ := e_31
  have hn_31 : h_31.1 = h.1 + 12 := by rw [x1_31, hn_30]
  have hs_31 : h_31.2.1 = h.2.1 + 162 := by rw [x2_31, hs_30]
  have hg_31 : gt h_31 b = cO 1 [vI 0, vI 0, vI 0, vI 0, vI 0, vI 0, vI 0, vR (h.1 + 0), vR (h.1 + 1), vR (h.1 + 2), vR (h.1 + 3), vR (h.1 + 4), vR (h.1 + 5), vR (h.1 + 6), vR (h.1 + 7), vR (h.1 + 8), vR (h.1 + 9), vR (h.1 + 10), vR (h.1 + 11), vN] := x3_31
  have ha0_31 : gt h_31 (h.1 + 0) = cA 0 17 (fun _ => 0) := (x4_31 _ (by omega)).trans ha0_30
  have ha1_31 : gt h_31 (h.1 + 1) = cA 0 17 (fun _ => 0) := (x4_31 _ (by omega)).trans ha1_30
  have ha2_31 : gt h_31 (h.1 + 2) = cA 0 10 (fun _ => 0) := (x4_31 _ (by omega)).trans ha2_30
  have ha3_31 : gt h_31 (h.1 + 3) = cA 0 10 (fun _ => 0) := (x4_31 _ (by omega)).trans ha3_30
  have ha4_31 : gt h_31 (h.1 + 4) = cA 0 10 (fun _ => 0) := (x4_31 _ (by omega)).trans ha4_30
  have ha5_31 : gt h_31 (h.1 + 5) = cA 0 10 (fun _ => 0) := (x4_31 _ (by omega)).trans ha5_30
  have ha6_31 : gt h_31 (h.1 + 6) = cA 0 10 (fun _ => 0) := (x4_31 _ (by omega)).trans ha6_30
  have ha7_31 : gt h_31 (h.1 + 7) = cA 0 32 (fun _ => 0) := (x4_31 _ (by omega)).trans ha7_30
  have ha8_31 : gt h_31 (h.1 + 8) = cA 0 16 (fun _ => 0) := (x4_31 _ (by omega)).trans ha8_30
  have ha9_31 : gt h_31 (h.1 + 9) = cA 0 16 (fun _ => 0) := (x4_31 _ (by omega)).trans ha9_30
  have ha10_31 : gt h_31 (h.1 + 10) = cA 0 7 (fun _ => 0) := (x4_31 _ (by omega)).trans ha10_30
  have ha11_31 : gt h_31 (h.1 + 11) = cA 0 7 (fun _ => 0) := (x4_31 _ (by omega)).trans ha11_30
  have hf_31 : ∀ B, B ≠ b → (B < h.1 ∨ h.1 + 13 ≤ B) → gt h_31 B = gt h B := fun B q1 q2 => (x4_31 B q1).trans (hf_30 B q1 q2)
  refine xh_pu (ls' := [vR b]) (st' := [vR b]) (dg dc7 71 rfl) rfl rfl ?_
  refine xh_pu (ls' := [vR b]) (st' := [vI 7, vR b]) (dg dc7 72 rfl) rfl rfl ?_
  refine xh_newa (n9 := 7) (dg dc7 73 rfl) rfl rfl (fun h_32 e_32 => ?_)
  obtain ⟨x1_32, x2_32, x3_32, x4_32⟩ := e_32
  have hn_32 : h_32.1 = h.1 + 13 := by rw [x1_32, hn_31]
  have hs_32 : h_32.2.1 = h.2.1 + 169 := by rw [x2_32, hs_31]
  have hg_32 : gt h_32 b = cO 1 [vI 0, vI 0, vI 0, vI 0, vI 0, vI 0, vI 0, vR (h.1 + 0), vR (h.1 + 1), vR (h.1 + 2), vR (h.1 + 3), vR (h.1 + 4), vR (h.1 + 5), vR (h.1 + 6), vR (h.1 + 7), vR (h.1 + 8), vR (h.1 + 9), vR (h.1 + 10), vR (h.1 + 11), vN] := (x4_32 b (by omega)).trans hg_31
  have ha0_32 : gt h_32 (h.1 + 0) = cA 0 17 (fun _ => 0) := (x4_32 _ (by omega)).trans ha0_31
  have ha1_32 : gt h_32 (h.1 + 1) = cA 0 17 (fun _ => 0) := (x4_32 _ (by omega)).trans ha1_31
  have ha2_32 : gt h_32 (h.1 + 2) = cA 0 10 (fun _ => 0) := (x4_32 _ (by omega)).trans ha2_31
  have ha3_32 : gt h_32 (h.1 + 3) = cA 0 10 (fun _ => 0) := (x4_32 _ (by omega)).trans ha3_31
  have ha4_32 : gt h_32 (h.1 + 4) = cA 0 10 (fun _ => 0) := (x4_32 _ (by omega)).trans ha4_31
  have ha5_32 : gt h_32 (h.1 + 5) = cA 0 10 (fun _ => 0) := (x4_32 _ (by omega)).trans ha5_31
  have ha6_32 : gt h_32 (h.1 + 6) = cA 0 10 (fun _ => 0) := (x4_32 _ (by omega)).trans ha6_31
  have ha7_32 : gt h_32 (h.1 + 7) = cA 0 32 (fun _ => 0) := (x4_32 _ (by omega)).trans ha7_31
  have ha8_32 : gt h_32 (h.1 + 8) = cA 0 16 (fun _ => 0) := (x4_32 _ (by omega)).trans ha8_31
  have ha9_32 : gt h_32 (h.1 + 9) = cA 0 16 (fun _ => 0) := (x4_32 _ (by omega)).trans ha9_31
  have ha10_32 : gt h_32 (h.1 + 10) = cA 0 7 (fun _ => 0) := (x4_32 _ (by omega)).trans ha10_31
  have ha11_32 : gt h_32 (h.1 + 11) = cA 0 7 (fun _ => 0) := (x4_32 _ (by omega)).trans ha11_31
  have ha12_32 : gt h_32 (h.1 + 12) = cA 0 7 (fun _ => 0) := by rw [← hn_31]; exact x3_32
  have hf_32 : ∀ B, B ≠ b → (B < h.1 ∨ h.1 + 13 ≤ B) → gt h_32 B = gt h B := fun B q1 q2 => (x4_32 B (by omega)).trans (hf_31 B q1 q2)
  rw [show h_31.1 = h.1 + 12 from hn_31]
  refine xh_put (dg dc7 74 rfl) rfl (by omega) hg_32 rfl rfl (fun h_33 e_33 => ?_)
  obtain ⟨x1_33, x2_33, x3_33, x4_33⟩ := e_33
  have hn_33 : h_33.1 = h.1 + 13 := by rw [x1_33, hn_32]
  have hs_33 : h_33.2.1 = h.2.1 + 169 := by rw [x2_33, hs_32]
  have hg_33 : gt h_33 b = cO 1 [vI 0, vI 0, vI 0, vI 0, vI 0, vI 0, vI 0, vR (h.1 + 0), vR (h.1 + 1), vR (h.1 + 2), vR (h.1 + 3), vR (h.1 + 4), vR (h.1 + 5), vR (h.1 + 6), vR (h.1 + 7), vR (h.1 + 8), vR (h.1 + 9), vR (h.1 + 10), vR (h.1 + 11), vR (h.1 + 12)] := x3_33
  have ha0_33 : gt h_33 (h.1 + 0) = cA 0 17 (fun _ => 0) := (x4_33 _ (by omega)).trans ha0_32
  have ha1_33 : gt h_33 (h.1 + 1) = cA 0 17 (fun _ => 0) := (x4_33 _ (by omega)).trans ha1_32
  have ha2_33 : gt h_33 (h.1 + 2) = cA 0 10 (fun _ => 0) := (x4_33 _ (by omega)).trans ha2_32
  have ha3_33 : gt h_33 (h.1 + 3) = cA 0 10 (fun _ => 0) := (x4_33 _ (by omega)).trans ha3_32
  have ha4_33 : gt h_33 (h.1 + 4) = cA 0 10 (fun _ => 0) := (x4_33 _ (by omega)).trans ha4_32
  have ha5_33 : gt h_33 (h.1 + 5) = cA 0 10 (fun _ => 0) := (x4_33 _ (by omega)).trans ha5_32
  have ha6_33 : gt h_33 (h.1 + 6) = cA 0 10 (fun _ => 0) := (x4_33 _ (by omega)).trans ha6_32
  have ha7_33 : gt h_33 (h.1 + 7) = cA 0 32 (fun _ => 0) := (x4_33 _ (by omega)).trans ha7_32
  have ha8_33 : gt h_33 (h.1 + 8) = cA 0 16 (fun _ => 0) := (x4_33 _ (by omega)).trans ha8_32
  have ha9_33 : gt h_33 (h.1 + 9) = cA 0 16 (fun _ => 0) := (x4_33 _ (by omega)).trans ha9_32
  have ha10_33 : gt h_33 (h.1 + 10) = cA 0 7 (fun _ => 0) := (x4_33 _ (by omega)).trans ha10_32
  have ha11_33 : gt h_33 (h.1 + 11) = cA 0 7 (fun _ => 0) := (x4_33 _ (by omega)).trans ha11_32
  have ha12_33 : gt h_33 (h.1 + 12) = cA 0 7 (fun _ => 0) := (x4_33 _ (by omega)).trans ha12_32
  have hf_33 : ∀ B, B ≠ b → (B < h.1 ∨ h.1 + 13 ≤ B) → gt h_33 B = gt h B := fun B q1 q2 => (x4_33 B q1).trans (hf_32 B q1 q2)
  exact xh_vre (dg dc7 75 rfl) rfl ⟨rfl, hn_33, hs_33, hg_33, ha0_33, ha1_33, ha2_33, ha3_33, ha4_33, ha5_33, ha6_33, ha7_33, ha8_33, ha9_33, ha10_33, ha11_33, ha12_33, hf_33⟩
def il20 : List (Nat × Instr × Nat) := [(0, .aload_n 0, 1), (1, .invokespecial 5, 3), (4, .aload_n 0, 1), (5, .iconst (-1), 1), (6, .putfield 11, 3), (9, .aload_n 0, 1), (10, .bipush 12, 2), (12, .newarray .int, 2), (14, .putfield 15, 3), (17, .aload_n 0, 1), (18, .bipush 12, 2), (20, .newarray .int, 2), (22, .putfield 19, 3), (25, .aload_n 0, 1), (26, .sipush 400, 3), (29, .newarray .int, 2), (31, .putfield 24, 3), (34, .aload_n 0, 1), (35, .iconst 0, 1), (36, .putfield 27, 3), (39, .aload_n 0, 1), (40, .bipush 8, 2), (42, .newarray .int, 2), (44, .putfield 30, 3), (47, .aload_n 0, 1), (48, .bipush 32, 2), (50, .newarray .int, 2), (52, .putfield 33, 3), (55, .return_, 1)]
theorem dc20 : dcs (mC 20) il20 := dc_of (by decide +kernel)
set_option maxRecDepth 4000 in
theorem ctor20 {d : Nat} {h : AH} {b : Nat} (hb : b < h.1) (hg : gt h b = cO 2 [vI 0, vN, vN, vN, vI 0, vN, vN]) : XH d 20 0 (ent 20 [vR b]) [] h (fun r h1 => r = rV ∧ h1.1 = h.1 + 5 ∧ h1.2.1 = h.2.1 + 464 ∧ gt h1 b = cO 2 [vI (-1), vR (h.1 + 0), vR (h.1 + 1), vR (h.1 + 2), vI 0, vR (h.1 + 3), vR (h.1 + 4)] ∧ gt h1 (h.1 + 0) = cA 0 12 (fun _ => 0) ∧ gt h1 (h.1 + 1) = cA 0 12 (fun _ => 0) ∧ gt h1 (h.1 + 2) = cA 0 400 (fun _ => 0) ∧ gt h1 (h.1 + 3) = cA 0 8 (fun _ => 0) ∧ gt h1 (h.1 + 4) = cA 0 32 (fun _ => 0) ∧ ∀ B, B ≠ b → (B < h.1 ∨ h.1 + 5 ≤ B) → gt h1 B = gt h B) := by
  show XH d 20 0 [vR b] [] h _
  have hn_0 : h.1 = h.1 + 0 := rfl
  have hs_0 : h.2.1 = h.2.1 + 0 := rfl
  have hg_0 : gt h b = cO 2 [vI 0, vN, vN, vN, vI 0, vN, vN] := hg
  have hf_0 : ∀ B, B ≠ b → (B < h.1 ∨ h.1 + 5 ≤ B) → gt h B = gt h B := fun _ _ _ => rfl
  refine xh_pu (ls' := [vR b]) (st' := [vR b]) (dg dc20 0 rfl) rfl rfl ?_
  refine xh_oin (dg dc20 1 rfl) rfl (by omega) rfl ?_
  refine xh_pu (ls' := [vR b]) (st' := [vR b]) (dg dc20 2 rfl) rfl rfl ?_
  refine xh_pu (ls' := [vR b]) (st' := [vI (-1), vR b]) (dg dc20 3 rfl) rfl rfl ?_
  refine xh_put (dg dc20 4 rfl) rfl (by omega) hg_0 rfl rfl (fun h_1 e_1 => ?_)
  obtain ⟨x1_1, x2_1, x3_1, x4_1⟩ := e_1
  have hn_1 : h_1.1 = h.1 + 0 := by rw [x1_1, hn_0]
  have hs_1 : h_1.2.1 = h.2.1 + 0 := by rw [x2_1, hs_0]
  have hg_1 : gt h_1 b = cO 2 [vI (-1), vN, vN, vN, vI 0, vN, vN] := x3_1
  have hf_1 : ∀ B, B ≠ b → (B < h.1 ∨ h.1 + 5 ≤ B) → gt h_1 B = gt h B := fun B q1 q2 => (x4_1 B q1).trans (hf_0 B q1 q2)
  refine xh_pu (ls' := [vR b]) (st' := [vR b]) (dg dc20 5 rfl) rfl rfl ?_
  refine xh_pu (ls' := [vR b]) (st' := [vI 12, vR b]) (dg dc20 6 rfl) rfl rfl ?_
  refine xh_newa (n9 := 12) (dg dc20 7 rfl) rfl rfl (fun h_2 e_2 => ?_)
  obtain ⟨x1_2, x2_2, x3_2, x4_2⟩ := e_2
  have hn_2 : h_2.1 = h.1 + 1 := by rw [x1_2, hn_1]
  have hs_2 : h_2.2.1 = h.2.1 + 12 := by rw [x2_2, hs_1]
  have hg_2 : gt h_2 b = cO 2 [vI (-1), vN, vN, vN, vI 0, vN, vN] := (x4_2 b (by omega)).trans hg_1
  have ha0_2 : gt h_2 (h.1 + 0) = cA 0 12 (fun _ => 0) := by rw [← hn_1]; exact x3_2
  have hf_2 : ∀ B, B ≠ b → (B < h.1 ∨ h.1 + 5 ≤ B) → gt h_2 B = gt h B := fun B q1 q2 => (x4_2 B (by omega)).trans (hf_1 B q1 q2)
  rw [show h_1.1 = h.1 + 0 from hn_1]
  refine xh_put (dg dc20 8 rfl) rfl (by omega) hg_2 rfl rfl (fun h_3 e_3 => ?_)
  obtain ⟨x1_3, x2_3, x3_3, x4_3⟩ := e_3
  have hn_3 : h_3.1 = h.1 + 1 := by rw [x1_3, hn_2]
  have hs_3 : h_3.2.1 = h.2.1 + 12 := by rw [x2_3, hs_2]
  have hg_3 : gt h_3 b = cO 2 [vI (-1), vR (h.1 + 0), vN, vN, vI 0, vN, vN] := x3_3
  have ha0_3 : gt h_3 (h.1 + 0) = cA 0 12 (fun _ => 0) := (x4_3 _ (by omega)).trans ha0_2
  have hf_3 : ∀ B, B ≠ b → (B < h.1 ∨ h.1 + 5 ≤ B) → gt h_3 B = gt h B := fun B q1 q2 => (x4_3 B q1).trans (hf_2 B q1 q2)
  refine xh_pu (ls' := [vR b]) (st' := [vR b]) (dg dc20 9 rfl) rfl rfl ?_
  refine xh_pu (ls' := [vR b]) (st' := [vI 12, vR b]) (dg dc20 10 rfl) rfl rfl ?_
  refine xh_newa (n9 := 12) (dg dc20 11 rfl) rfl rfl (fun h_4 e_4 => ?_)
  obtain ⟨x1_4, x2_4, x3_4, x4_4⟩ := e_4
  have hn_4 : h_4.1 = h.1 + 2 := by rw [x1_4, hn_3]
  have hs_4 : h_4.2.1 = h.2.1 + 24 := by rw [x2_4, hs_3]
  have hg_4 : gt h_4 b = cO 2 [vI (-1), vR (h.1 + 0), vN, vN, vI 0, vN, vN] := (x4_4 b (by omega)).trans hg_3
  have ha0_4 : gt h_4 (h.1 + 0) = cA 0 12 (fun _ => 0) := (x4_4 _ (by omega)).trans ha0_3
  have ha1_4 : gt h_4 (h.1 + 1) = cA 0 12 (fun _ => 0) := by rw [← hn_3]; exact x3_4
  have hf_4 : ∀ B, B ≠ b → (B < h.1 ∨ h.1 + 5 ≤ B) → gt h_4 B = gt h B := fun B q1 q2 => (x4_4 B (by omega)).trans (hf_3 B q1 q2)
  rw [show h_3.1 = h.1 + 1 from hn_3]
  refine xh_put (dg dc20 12 rfl) rfl (by omega) hg_4 rfl rfl (fun h_5 e_5 => ?_)
  obtain ⟨x1_5, x2_5, x3_5, x4_5⟩ := e_5
  have hn_5 : h_5.1 = h.1 + 2 := by rw [x1_5, hn_4]
  have hs_5 : h_5.2.1 = h.2.1 + 24 := by rw [x2_5, hs_4]
  have hg_5 : gt h_5 b = cO 2 [vI (-1), vR (h.1 + 0), vR (h.1 + 1), vN, vI 0, vN, vN] := x3_5
  have ha0_5 : gt h_5 (h.1 + 0) = cA 0 12 (fun _ => 0) := (x4_5 _ (by omega)).trans ha0_4
  have ha1_5 : gt h_5 (h.1 + 1) = cA 0 12 (fun _ => 0) := (x4_5 _ (by omega)).trans ha1_4
  have hf_5 : ∀ B, B ≠ b → (B < h.1 ∨ h.1 + 5 ≤ B) → gt h_5 B = gt h B := fun B q1 q2 => (x4_5 B q1).trans (hf_4 B q1 q2)
  refine xh_pu (ls' := [vR b]) (st' := [vR b]) (dg dc20 13 rfl) rfl rfl ?_
  refine xh_pu (ls' := [vR b]) (st' := [vI 400, vR b]) (dg dc20 14 rfl) rfl rfl ?_
  refine xh_newa (n9 := 400) (dg dc20 15 rfl) rfl rfl (fun h_6 e_6 => ?_)
  obtain ⟨x1_6, x2_6, x3_6, x4_6⟩ := e_6
  have hn_6 : h_6.1 = h.1 + 3 := by rw [x1_6, hn_5]
  have hs_6 : h_6.2.1 = h.2.1 + 424 := by rw [x2_6, hs_5]
  have hg_6 : gt h_6 b = cO 2 [vI (-1), vR (h.1 + 0), vR (h.1 + 1), vN, vI 0, vN, vN] := (x4_6 b (by omega)).trans hg_5
  have ha0_6 : gt h_6 (h.1 + 0) = cA 0 12 (fun _ => 0) := (x4_6 _ (by omega)).trans ha0_5
  have ha1_6 : gt h_6 (h.1 + 1) = cA 0 12 (fun _ => 0) := (x4_6 _ (by omega)).trans ha1_5
  have ha2_6 : gt h_6 (h.1 + 2) = cA 0 400 (fun _ => 0) := by rw [← hn_5]; exact x3_6
  have hf_6 : ∀ B, B ≠ b → (B < h.1 ∨ h.1 + 5 ≤ B) → gt h_6 B = gt h B := fun B q1 q2 => (x4_6 B (by omega)).trans (hf_5 B q1 q2)
  rw [show h_5.1 = h.1 + 2 from hn_5]
  refine xh_put (dg dc20 16 rfl) rfl (by omega) hg_6 rfl rfl (fun h_7 e_7 => ?_)
  obtain ⟨x1_7, x2_7, x3_7, x4_7⟩ := e_7
  have hn_7 : h_7.1 = h.1 + 3 := by rw [x1_7, hn_6]
  have hs_7 : h_7.2.1 = h.2.1 + 424 := by rw [x2_7, hs_6]
  have hg_7 : gt h_7 b = cO 2 [vI (-1), vR (h.1 + 0), vR (h.1 + 1), vR (h.1 + 2), vI 0, vN, vN] := x3_7
  have ha0_7 : gt h_7 (h.1 + 0) = cA 0 12 (fun _ => 0) := (x4_7 _ (by omega)).trans ha0_6
  have ha1_7 : gt h_7 (h.1 + 1) = cA 0 12 (fun _ => 0) := (x4_7 _ (by omega)).trans ha1_6
  have ha2_7 : gt h_7 (h.1 + 2) = cA 0 400 (fun _ => 0) := (x4_7 _ (by omega)).trans ha2_6
  have hf_7 : ∀ B, B ≠ b → (B < h.1 ∨ h.1 + 5 ≤ B) → gt h_7 B = gt h B := fun B q1 q2 => (x4_7 B q1).trans (hf_6 B q1 q2)
  refine xh_pu (ls' := [vR b]) (st' := [vR b]) (dg dc20 17 rfl) rfl rfl ?_
  refine xh_pu (ls' := [vR b]) (st' := [vI 0, vR b]) (dg dc20 18 rfl) rfl rfl ?_
  refine xh_put (dg dc20 19 rfl) rfl (by omega) hg_7 rfl rfl (fun h_8 e_8 => ?_)
  obtain ⟨x1_8, x2_8, x3_8, x4_8⟩ := e_8
  have hn_8 : h_8.1 = h.1 + 3 := by rw [x1_8, hn_7]
  have hs_8 : h_8.2.1 = h.2.1 + 424 := by rw [x2_8, hs_7]
  have hg_8 : gt h_8 b = cO 2 [vI (-1), vR (h.1 + 0), vR (h.1 + 1), vR (h.1 + 2), vI 0, vN, vN] := x3_8
  have ha0_8 : gt h_8 (h.1 + 0) = cA 0 12 (fun _ => 0) := (x4_8 _ (by omega)).trans ha0_7
  have ha1_8 : gt h_8 (h.1 + 1) = cA 0 12 (fun _ => 0) := (x4_8 _ (by omega)).trans ha1_7
  have ha2_8 : gt h_8 (h.1 + 2) = cA 0 400 (fun _ => 0) := (x4_8 _ (by omega)).trans ha2_7
  have hf_8 : ∀ B, B ≠ b → (B < h.1 ∨ h.1 + 5 ≤ B) → gt h_8 B = gt h B := fun B q1 q2 => (x4_8 B q1).trans (hf_7 B q1 q2)
  refine xh_pu (ls' := [vR b]) (st' := [vR b]) (dg dc20 20 rfl) rfl rfl ?_
  refine xh_pu (ls' := [vR b]) (st' := [vI 8, vR b]) (dg dc20 21 rfl) rfl rfl ?_
  refine xh_newa (n9 := 8) (dg dc20 22 rfl) rfl rfl (fun h_9 e_9 => ?_)
  obtain ⟨x1_9, x2_9, x3_9, x4_9⟩ := e_9
  have hn_9 : h_9.1 = h.1 + 4 := by rw [x1_9, hn_8]
  have hs_9 : h_9.2.1 = h.2.1 + 432 := by rw [x2_9, hs_8]
  have hg_9 : gt h_9 b = cO 2 [vI (-1), vR (h.1 + 0), vR (h.1 + 1), vR (h.1 + 2), vI 0, vN, vN] := (x4_9 b (by omega)).trans hg_8
  have ha0_9 : gt h_9 (h.1 + 0) = cA 0 12 (fun _ => 0) := (x4_9 _ (by omega)).trans ha0_8
  have ha1_9 : gt h_9 (h.1 + 1) = cA 0 12 (fun _ => 0) := (x4_9 _ (by omega)).trans ha1_8
  have ha2_9 : gt h_9 (h.1 + 2) = cA 0 400 (fun _ => 0) := (x4_9 _ (by omega)).trans ha2_8
  have ha3_9 : gt h_9 (h.1 + 3) = cA 0 8 (fun _ => 0) := by rw [← hn_8]; exact x3_9
  have hf_9 : ∀ B, B ≠ b → (B < h.1 ∨ h.1 + 5 ≤ B) → gt h_9 B = gt h B := fun B q1 q2 => (x4_9 B (by omega)).trans (hf_8 B q1 q2)
  rw [show h_8.1 = h.1 + 3 from hn_8]
  refine xh_put (dg dc20 23 rfl) rfl (by omega) hg_9 rfl rfl (fun h_10 e_10 => ?_)
  obtain ⟨x1_10, x2_10, x3_10, x4_10⟩ := e_10
  have hn_10 : h_10.1 = h.1 + 4 := by rw [x1_10, hn_9]
  have hs_10 : h_10.2.1 = h.2.1 + 432 := by rw [x2_10, hs_9]
  have hg_10 : gt h_10 b = cO 2 [vI (-1), vR (h.1 + 0), vR (h.1 + 1), vR (h.1 + 2), vI 0, vR (h.1 + 3), vN] := x3_10
  have ha0_10 : gt h_10 (h.1 + 0) = cA 0 12 (fun _ => 0) := (x4_10 _ (by omega)).trans ha0_9
  have ha1_10 : gt h_10 (h.1 + 1) = cA 0 12 (fun _ => 0) := (x4_10 _ (by omega)).trans ha1_9
  have ha2_10 : gt h_10 (h.1 + 2) = cA 0 400 (fun _ => 0) := (x4_10 _ (by omega)).trans ha2_9
  have ha3_10 : gt h_10 (h.1 + 3) = cA 0 8 (fun _ => 0) := (x4_10 _ (by omega)).trans ha3_9
  have hf_10 : ∀ B, B ≠ b → (B < h.1 ∨ h.1 + 5 ≤ B) → gt h_10 B = gt h B := fun B q1 q2 => (x4_10 B q1).trans (hf_9 B q1 q2)
  refine xh_pu (ls' := [vR b]) (st' := [vR b]) (dg dc20 24 rfl) rfl rfl ?_
  refine xh_pu (ls' := [vR b]) (st' := [vI 32, vR b]) (dg dc20 25 rfl) rfl rfl ?_
  refine xh_newa (n9 := 32) (dg dc20 26 rfl) rfl rfl (fun h_11 e_11 => ?_)
  obtain ⟨x1_11, x2_11, x3_11, x4_11⟩ := e_11
  have hn_11 : h_11.1 = h.1 + 5 := by rw [x1_11, hn_10]
  have hs_11 : h_11.2.1 = h.2.1 + 464 := by rw [x2_11, hs_10]
  have hg_11 : gt h_11 b = cO 2 [vI (-1), vR (h.1 + 0), vR (h.1 + 1), vR (h.1 + 2), vI 0, vR (h.1 + 3), vN] := (x4_11 b (by omega)).trans hg_10
  have ha0_11 : gt h_11 (h.1 + 0) = cA 0 12 (fun _ => 0) := (x4_11 _ (by omega)).trans ha0_10
  have ha1_11 : gt h_11 (h.1 + 1) = cA 0 12 (fun _ => 0) := (x4_11 _ (by omega)).trans ha1_10
  have ha2_11 : gt h_11 (h.1 + 2) = cA 0 400 (fun _ => 0) := (x4_11 _ (by omega)).trans ha2_10
  have ha3_11 : gt h_11 (h.1 + 3) = cA 0 8 (fun _ => 0) := (x4_11 _ (by omega)).trans ha3_10
  have ha4_11 : gt h_11 (h.1 + 4) = cA 0 32 (fun _ => 0) := by rw [← hn_10]; exact x3_11
  have hf_11 : ∀ B, B ≠ b → (B < h.1 ∨ h.1 + 5 ≤ B) → gt h_11 B = gt h B := fun B q1 q2 => (x4_11 B (by omega)).trans (hf_10 B q1 q2)
  rw [show h_10.1 = h.1 + 4 from hn_10]
  refine xh_put (dg dc20 27 rfl) rfl (by omega) hg_11 rfl rfl (fun h_12 e_12 => ?_)
  obtain ⟨x1_12, x2_12, x3_12, x4_12⟩ := e_12
  have hn_12 : h_12.1 = h.1 + 5 := by rw [x1_12, hn_11]
  have hs_12 : h_12.2.1 = h.2.1 + 464 := by rw [x2_12, hs_11]
  have hg_12 : gt h_12 b = cO 2 [vI (-1), vR (h.1 + 0), vR (h.1 + 1), vR (h.1 + 2), vI 0, vR (h.1 + 3), vR (h.1 + 4)] := x3_12
  have ha0_12 : gt h_12 (h.1 + 0) = cA 0 12 (fun _ => 0) := (x4_12 _ (by omega)).trans ha0_11
  have ha1_12 : gt h_12 (h.1 + 1) = cA 0 12 (fun _ => 0) := (x4_12 _ (by omega)).trans ha1_11
  have ha2_12 : gt h_12 (h.1 + 2) = cA 0 400 (fun _ => 0) := (x4_12 _ (by omega)).trans ha2_11
  have ha3_12 : gt h_12 (h.1 + 3) = cA 0 8 (fun _ => 0) := (x4_12 _ (by omega)).trans ha3_11
  have ha4_12 : gt h_12 (h.1 + 4) = cA 0 32 (fun _ => 0) := (x4_12 _ (by omega)).trans ha4_11
  have hf_12 : ∀ B, B ≠ b → (B < h.1 ∨ h.1 + 5 ≤ B) → gt h_12 B = gt h B := fun B q1 q2 => (x4_12 B q1).trans (hf_11 B q1 q2)
  exact xh_vre (dg dc20 28 rfl) rfl ⟨rfl, hn_12, hs_12, hg_12, ha0_12, ha1_12, ha2_12, ha3_12, ha4_12, hf_12⟩
def il0 : List (Nat × Instr × Nat) := [(0, .aload_n 0, 1), (1, .invokespecial 3, 3), (4, .aload_n 0, 1), (5, .iconst 0, 1), (6, .putfield 9, 3), (9, .aload_n 0, 1), (10, .iconst 0, 1), (11, .putfield 15, 3), (14, .aload_n 0, 1), (15, .iconst (-1), 1), (16, .putfield 18, 3), (19, .aload_n 0, 1), (20, .iconst 0, 1), (21, .putfield 21, 3), (24, .aload_n 0, 1), (25, .iconst 0, 1), (26, .putfield 24, 3), (29, .aload_n 0, 1), (30, .iconst 0, 1), (31, .putfield 27, 3), (34, .aload_n 0, 1), (35, .iconst 0, 1), (36, .putfield 30, 3), (39, .aload_n 0, 1), (40, .iconst 0, 1), (41, .putfield 33, 3), (44, .aload_n 0, 1), (45, .iconst 0, 1), (46, .putfield 36, 3), (49, .aload_n 0, 1), (50, .bipush 10, 2), (52, .newarray .int, 2), (54, .putfield 39, 3), (57, .aload_n 0, 1), (58, .bipush 7, 2), (60, .newarray .int, 2), (62, .putfield 43, 3), (65, .aload_n 0, 1), (66, .bipush 10, 2), (68, .newarray .int, 2), (70, .putfield 46, 3), (73, .aload_n 0, 1), (74, .bipush 10, 2), (76, .newarray .int, 2), (78, .putfield 49, 3), (81, .aload_n 0, 1), (82, .bipush 10, 2), (84, .newarray .int, 2), (86, .putfield 52, 3), (89, .aload_n 0, 1), (90, .getfield 39, 3), (93, .iconst (-1), 1), (94, .invokestatic 55, 3), (97, .return_, 1)]
theorem dc0 : dcs (mC 0) il0 := dc_of (by decide +kernel)
set_option maxRecDepth 4000 in
theorem ctor0 {d : Nat} {h : AH} {b : Nat} (hb : b < h.1) (hg : gt h b = cO 0 [vI 0, vI 0, vI 0, vI 0, vI 0, vI 0, vI 0, vI 0, vI 0, vN, vN, vN, vN, vN]) : XH (d + 1) 0 0 (ent 0 [vR b]) [] h (fun r h1 => r = rV ∧ h1.1 = h.1 + 5 ∧ h1.2.1 = h.2.1 + 47 ∧ gt h1 b = cO 0 [vI 0, vI 0, vI (-1), vI 0, vI 0, vI 0, vI 0, vI 0, vI 0, vR (h.1 + 0), vR (h.1 + 1), vR (h.1 + 2), vR (h.1 + 3), vR (h.1 + 4)] ∧ gt h1 (h.1 + 0) = cA 0 10 (fun j => if j < 10 then ((-1)) else 0) ∧ gt h1 (h.1 + 1) = cA 0 7 (fun _ => 0) ∧ gt h1 (h.1 + 2) = cA 0 10 (fun _ => 0) ∧ gt h1 (h.1 + 3) = cA 0 10 (fun _ => 0) ∧ gt h1 (h.1 + 4) = cA 0 10 (fun _ => 0) ∧ ∀ B, B ≠ b → (B < h.1 ∨ h.1 + 5 ≤ B) → gt h1 B = gt h B) := by
  show XH (d + 1) 0 0 [vR b] [] h _
  have hn_0 : h.1 = h.1 + 0 := rfl
  have hs_0 : h.2.1 = h.2.1 + 0 := rfl
  have hg_0 : gt h b = cO 0 [vI 0, vI 0, vI 0, vI 0, vI 0, vI 0, vI 0, vI 0, vI 0, vN, vN, vN, vN, vN] := hg
  have hf_0 : ∀ B, B ≠ b → (B < h.1 ∨ h.1 + 5 ≤ B) → gt h B = gt h B := fun _ _ _ => rfl
  refine xh_pu (ls' := [vR b]) (st' := [vR b]) (dg dc0 0 rfl) rfl rfl ?_
  refine xh_oin (dg dc0 1 rfl) rfl (by omega) rfl ?_
  refine xh_pu (ls' := [vR b]) (st' := [vR b]) (dg dc0 2 rfl) rfl rfl ?_
  refine xh_pu (ls' := [vR b]) (st' := [vI 0, vR b]) (dg dc0 3 rfl) rfl rfl ?_
  refine xh_put (dg dc0 4 rfl) rfl (by omega) hg_0 rfl rfl (fun h_1 e_1 => ?_)
  obtain ⟨x1_1, x2_1, x3_1, x4_1⟩ := e_1
  have hn_1 : h_1.1 = h.1 + 0 := by rw [x1_1, hn_0]
  have hs_1 : h_1.2.1 = h.2.1 + 0 := by rw [x2_1, hs_0]
  have hg_1 : gt h_1 b = cO 0 [vI 0, vI 0, vI 0, vI 0, vI 0, vI 0, vI 0, vI 0, vI 0, vN, vN, vN, vN, vN] := x3_1
  have hf_1 : ∀ B, B ≠ b → (B < h.1 ∨ h.1 + 5 ≤ B) → gt h_1 B = gt h B := fun B q1 q2 => (x4_1 B q1).trans (hf_0 B q1 q2)
  refine xh_pu (ls' := [vR b]) (st' := [vR b]) (dg dc0 5 rfl) rfl rfl ?_
  refine xh_pu (ls' := [vR b]) (st' := [vI 0, vR b]) (dg dc0 6 rfl) rfl rfl ?_
  refine xh_put (dg dc0 7 rfl) rfl (by omega) hg_1 rfl rfl (fun h_2 e_2 => ?_)
  obtain ⟨x1_2, x2_2, x3_2, x4_2⟩ := e_2
  have hn_2 : h_2.1 = h.1 + 0 := by rw [x1_2, hn_1]
  have hs_2 : h_2.2.1 = h.2.1 + 0 := by rw [x2_2, hs_1]
  have hg_2 : gt h_2 b = cO 0 [vI 0, vI 0, vI 0, vI 0, vI 0, vI 0, vI 0, vI 0, vI 0, vN, vN, vN, vN, vN] := x3_2
  have hf_2 : ∀ B, B ≠ b → (B < h.1 ∨ h.1 + 5 ≤ B) → gt h_2 B = gt h B := fun B q1 q2 => (x4_2 B q1).trans (hf_1 B q1 q2)
  refine xh_pu (ls' := [vR b]) (st' := [vR b]) (dg dc0 8 rfl) rfl rfl ?_
  refine xh_pu (ls' := [vR b]) (st' := [vI (-1), vR b]) (dg dc0 9 rfl) rfl rfl ?_
  refine xh_put (dg dc0 10 rfl) rfl (by omega) hg_2 rfl rfl (fun h_3 e_3 => ?_)
  obtain ⟨x1_3, x2_3, x3_3, x4_3⟩ := e_3
  have hn_3 : h_3.1 = h.1 + 0 := by rw [x1_3, hn_2]
  have hs_3 : h_3.2.1 = h.2.1 + 0 := by rw [x2_3, hs_2]
  have hg_3 : gt h_3 b = cO 0 [vI 0, vI 0, vI (-1), vI 0, vI 0, vI 0, vI 0, vI 0, vI 0, vN, vN, vN, vN, vN] := x3_3
  have hf_3 : ∀ B, B ≠ b → (B < h.1 ∨ h.1 + 5 ≤ B) → gt h_3 B = gt h B := fun B q1 q2 => (x4_3 B q1).trans (hf_2 B q1 q2)
  refine xh_pu (ls' := [vR b]) (st' := [vR b]) (dg dc0 11 rfl) rfl rfl ?_
  refine xh_pu (ls' := [vR b]) (st' := [vI 0, vR b]) (dg dc0 12 rfl) rfl rfl ?_
  refine xh_put (dg dc0 13 rfl) rfl (by omega) hg_3 rfl rfl (fun h_4 e_4 => ?_)
  obtain ⟨x1_4, x2_4, x3_4, x4_4⟩ := e_4
  have hn_4 : h_4.1 = h.1 + 0 := by rw [x1_4, hn_3]
  have hs_4 : h_4.2.1 = h.2.1 + 0 := by rw [x2_4, hs_3]
  have hg_4 : gt h_4 b = cO 0 [vI 0, vI 0, vI (-1), vI 0, vI 0, vI 0, vI 0, vI 0, vI 0, vN, vN, vN, vN, vN] := x3_4
  have hf_4 : ∀ B, B ≠ b → (B < h.1 ∨ h.1 + 5 ≤ B) → gt h_4 B = gt h B := fun B q1 q2 => (x4_4 B q1).trans (hf_3 B q1 q2)
  refine xh_pu (ls' := [vR b]) (st' := [vR b]) (dg dc0 14 rfl) rfl rfl ?_
  refine xh_pu (ls' := [vR b]) (st' := [vI 0, vR b]) (dg dc0 15 rfl) rfl rfl ?_
  refine xh_put (dg dc0 16 rfl) rfl (by omega) hg_4 rfl rfl (fun h_5 e_5 => ?_)
  obtain ⟨x1_5, x2_5, x3_5, x4_5⟩ := e_5
  have hn_5 : h_5.1 = h.1 + 0 := by rw [x1_5, hn_4]
  have hs_5 : h_5.2.1 = h.2.1 + 0 := by rw [x2_5, hs_4]
  have hg_5 : gt h_5 b = cO 0 [vI 0, vI 0, vI (-1), vI 0, vI 0, vI 0, vI 0, vI 0, vI 0, vN, vN, vN, vN, vN] := x3_5
  have hf_5 : ∀ B, B ≠ b → (B < h.1 ∨ h.1 + 5 ≤ B) → gt h_5 B = gt h B := fun B q1 q2 => (x4_5 B q1).trans (hf_4 B q1 q2)
  refine xh_pu (ls' := [vR b]) (st' := [vR b]) (dg dc0 17 rfl) rfl rfl ?_
  refine xh_pu (ls' := [vR b]) (st' := [vI 0, vR b]) (dg dc0 18 rfl) rfl rfl ?_
  refine xh_put (dg dc0 19 rfl) rfl (by omega) hg_5 rfl rfl (fun h_6 e_6 => ?_)
  obtain ⟨x1_6, x2_6, x3_6, x4_6⟩ := e_6
  have hn_6 : h_6.1 = h.1 + 0 := by rw [x1_6, hn_5]
  have hs_6 : h_6.2.1 = h.2.1 + 0 := by rw [x2_6, hs_5]
  have hg_6 : gt h_6 b = cO 0 [vI 0, vI 0, vI (-1), vI 0, vI 0, vI 0, vI 0, vI 0, vI 0, vN, vN, vN, vN, vN] := x3_6
  have hf_6 : ∀ B, B ≠ b → (B < h.1 ∨ h.1 + 5 ≤ B) → gt h_6 B = gt h B := fun B q1 q2 => (x4_6 B q1).trans (hf_5 B q1 q2)
  refine xh_pu (ls' := [vR b]) (st' := [vR b]) (dg dc0 20 rfl) rfl rfl ?_
  refine xh_pu (ls' := [vR b]) (st' := [vI 0, vR b]) (dg dc0 21 rfl) rfl rfl ?_
  refine xh_put (dg dc0 22 rfl) rfl (by omega) hg_6 rfl rfl (fun h_7 e_7 => ?_)
  obtain ⟨x1_7, x2_7, x3_7, x4_7⟩ := e_7
  have hn_7 : h_7.1 = h.1 + 0 := by rw [x1_7, hn_6]
  have hs_7 : h_7.2.1 = h.2.1 + 0 := by rw [x2_7, hs_6]
  have hg_7 : gt h_7 b = cO 0 [vI 0, vI 0, vI (-1), vI 0, vI 0, vI 0, vI 0, vI 0, vI 0, vN, vN, vN, vN, vN] := x3_7
  have hf_7 : ∀ B, B ≠ b → (B < h.1 ∨ h.1 + 5 ≤ B) → gt h_7 B = gt h B := fun B q1 q2 => (x4_7 B q1).trans (hf_6 B q1 q2)
  refine xh_pu (ls' := [vR b]) (st' := [vR b]) (dg dc0 23 rfl) rfl rfl ?_
  refine xh_pu (ls' := [vR b]) (st' := [vI 0, vR b]) (dg dc0 24 rfl) rfl rfl ?_
  refine xh_put (dg dc0 25 rfl) rfl (by omega) hg_7 rfl rfl (fun h_8 e_8 => ?_)
  obtain ⟨x1_8, x2_8, x3_8, x4_8⟩ := e_8
  have hn_8 : h_8.1 = h.1 + 0 := by rw [x1_8, hn_7]
  have hs_8 : h_8.2.1 = h.2.1 + 0 := by rw [x2_8, hs_7]
  have hg_8 : gt h_8 b = cO 0 [vI 0, vI 0, vI (-1), vI 0, vI 0, vI 0, vI 0, vI 0, vI 0, vN, vN, vN, vN, vN] := x3_8
  have hf_8 : ∀ B, B ≠ b → (B < h.1 ∨ h.1 + 5 ≤ B) → gt h_8 B = gt h B := fun B q1 q2 => (x4_8 B q1).trans (hf_7 B q1 q2)
  refine xh_pu (ls' := [vR b]) (st' := [vR b]) (dg dc0 26 rfl) rfl rfl ?_
  refine xh_pu (ls' := [vR b]) (st' := [vI 0, vR b]) (dg dc0 27 rfl) rfl rfl ?_
  refine xh_put (dg dc0 28 rfl) rfl (by omega) hg_8 rfl rfl (fun h_9 e_9 => ?_)
  obtain ⟨x1_9, x2_9, x3_9, x4_9⟩ := e_9
  have hn_9 : h_9.1 = h.1 + 0 := by rw [x1_9, hn_8]
  have hs_9 : h_9.2.1 = h.2.1 + 0 := by rw [x2_9, hs_8]
  have hg_9 : gt h_9 b = cO 0 [vI 0, vI 0, vI (-1), vI 0, vI 0, vI 0, vI 0, vI 0, vI 0, vN, vN, vN, vN, vN] := x3_9
  have hf_9 : ∀ B, B ≠ b → (B < h.1 ∨ h.1 + 5 ≤ B) → gt h_9 B = gt h B := fun B q1 q2 => (x4_9 B q1).trans (hf_8 B q1 q2)
  refine xh_pu (ls' := [vR b]) (st' := [vR b]) (dg dc0 29 rfl) rfl rfl ?_
  refine xh_pu (ls' := [vR b]) (st' := [vI 10, vR b]) (dg dc0 30 rfl) rfl rfl ?_
  refine xh_newa (n9 := 10) (dg dc0 31 rfl) rfl rfl (fun h_10 e_10 => ?_)
  obtain ⟨x1_10, x2_10, x3_10, x4_10⟩ := e_10
  have hn_10 : h_10.1 = h.1 + 1 := by rw [x1_10, hn_9]
  have hs_10 : h_10.2.1 = h.2.1 + 10 := by rw [x2_10, hs_9]
  have hg_10 : gt h_10 b = cO 0 [vI 0, vI 0, vI (-1), vI 0, vI 0, vI 0, vI 0, vI 0, vI 0, vN, vN, vN, vN, vN] := (x4_10 b (by omega)).trans hg_9
  have ha0_10 : gt h_10 (h.1 + 0) = cA 0 10 (fun _ => 0) := by rw [← hn_9]; exact x3_10
  have hf_10 : ∀ B, B ≠ b → (B < h.1 ∨ h.1 + 5 ≤ B) → gt h_10 B = gt h B := fun B q1 q2 => (x4_10 B (by omega)).trans (hf_9 B q1 q2)
  rw [show h_9.1 = h.1 + 0 from hn_9]
  refine xh_put (dg dc0 32 rfl) rfl (by omega) hg_10 rfl rfl (fun h_11 e_11 => ?_)
  obtain ⟨x1_11, x2_11, x3_11, x4_11⟩ := e_11
  have hn_11 : h_11.1 = h.1 + 1 := by rw [x1_11, hn_10]
  have hs_11 : h_11.2.1 = h.2.1 + 10 := by rw [x2_11, hs_10]
  have hg_11 : gt h_11 b = cO 0 [vI 0, vI 0, vI (-1), vI 0, vI 0, vI 0, vI 0, vI 0, vI 0, vR (h.1 + 0), vN, vN, vN, vN] := x3_11
  have ha0_11 : gt h_11 (h.1 + 0) = cA 0 10 (fun _ => 0) := (x4_11 _ (by omega)).trans ha0_10
  have hf_11 : ∀ B, B ≠ b → (B < h.1 ∨ h.1 + 5 ≤ B) → gt h_11 B = gt h B := fun B q1 q2 => (x4_11 B q1).trans (hf_10 B q1 q2)
  refine xh_pu (ls' := [vR b]) (st' := [vR b]) (dg dc0 33 rfl) rfl rfl ?_
  refine xh_pu (ls' := [vR b]) (st' := [vI 7, vR b]) (dg dc0 34 rfl) rfl rfl ?_
  refine xh_newa (n9 := 7) (dg dc0 35 rfl) rfl rfl (fun h_12 e_12 => ?_)
  obtain ⟨x1_12, x2_12, x3_12, x4_12⟩ := e_12
  have hn_12 : h_12.1 = h.1 + 2 := by rw [x1_12, hn_11]
  have hs_12 : h_12.2.1 = h.2.1 + 17 := by rw [x2_12, hs_11]
  have hg_12 : gt h_12 b = cO 0 [vI 0, vI 0, vI (-1), vI 0, vI 0, vI 0, vI 0, vI 0, vI 0, vR (h.1 + 0), vN, vN, vN, vN] := (x4_12 b (by omega)).trans hg_11
  have ha0_12 : gt h_12 (h.1 + 0) = cA 0 10 (fun _ => 0) := (x4_12 _ (by omega)).trans ha0_11
  have ha1_12 : gt h_12 (h.1 + 1) = cA 0 7 (fun _ => 0) := by rw [← hn_11]; exact x3_12
  have hf_12 : ∀ B, B ≠ b → (B < h.1 ∨ h.1 + 5 ≤ B) → gt h_12 B = gt h B := fun B q1 q2 => (x4_12 B (by omega)).trans (hf_11 B q1 q2)
  rw [show h_11.1 = h.1 + 1 from hn_11]
  refine xh_put (dg dc0 36 rfl) rfl (by omega) hg_12 rfl rfl (fun h_13 e_13 => ?_)
  obtain ⟨x1_13, x2_13, x3_13, x4_13⟩ := e_13
  have hn_13 : h_13.1 = h.1 + 2 := by rw [x1_13, hn_12]
  have hs_13 : h_13.2.1 = h.2.1 + 17 := by rw [x2_13, hs_12]
  have hg_13 : gt h_13 b = cO 0 [vI 0, vI 0, vI (-1), vI 0, vI 0, vI 0, vI 0, vI 0, vI 0, vR (h.1 + 0), vR (h.1 + 1), vN, vN, vN] := x3_13
  have ha0_13 : gt h_13 (h.1 + 0) = cA 0 10 (fun _ => 0) := (x4_13 _ (by omega)).trans ha0_12
  have ha1_13 : gt h_13 (h.1 + 1) = cA 0 7 (fun _ => 0) := (x4_13 _ (by omega)).trans ha1_12
  have hf_13 : ∀ B, B ≠ b → (B < h.1 ∨ h.1 + 5 ≤ B) → gt h_13 B = gt h B := fun B q1 q2 => (x4_13 B q1).trans (hf_12 B q1 q2)
  refine xh_pu (ls' := [vR b]) (st' := [vR b]) (dg dc0 37 rfl) rfl rfl ?_
  refine xh_pu (ls' := [vR b]) (st' := [vI 10, vR b]) (dg dc0 38 rfl) rfl rfl ?_
  refine xh_newa (n9 := 10) (dg dc0 39 rfl) rfl rfl (fun h_14 e_14 => ?_)
  obtain ⟨x1_14, x2_14, x3_14, x4_14⟩ := e_14
  have hn_14 : h_14.1 = h.1 + 3 := by rw [x1_14, hn_13]
  have hs_14 : h_14.2.1 = h.2.1 + 27 := by rw [x2_14, hs_13]
  have hg_14 : gt h_14 b = cO 0 [vI 0, vI 0, vI (-1), vI 0, vI 0, vI 0, vI 0, vI 0, vI 0, vR (h.1 + 0), vR (h.1 + 1), vN, vN, vN] := (x4_14 b (by omega)).trans hg_13
  have ha0_14 : gt h_14 (h.1 + 0) = cA 0 10 (fun _ => 0) := (x4_14 _ (by omega)).trans ha0_13
  have ha1_14 : gt h_14 (h.1 + 1) = cA 0 7 (fun _ => 0) := (x4_14 _ (by omega)).trans ha1_13
  have ha2_14 : gt h_14 (h.1 + 2) = cA 0 10 (fun _ => 0) := by rw [← hn_13]; exact x3_14
  have hf_14 : ∀ B, B ≠ b → (B < h.1 ∨ h.1 + 5 ≤ B) → gt h_14 B = gt h B := fun B q1 q2 => (x4_14 B (by omega)).trans (hf_13 B q1 q2)
  rw [show h_13.1 = h.1 + 2 from hn_13]
  refine xh_put (dg dc0 40 rfl) rfl (by omega) hg_14 rfl rfl (fun h_15 e_15 => ?_)
  obtain ⟨x1_15, x2_15, x3_15, x4_15⟩ := e_15
  have hn_15 : h_15.1 = h.1 + 3 := by rw [x1_15, hn_14]
  have hs_15 : h_15.2.1 = h.2.1 + 27 := by rw [x2_15, hs_14]
  have hg_15 : gt h_15 b = cO 0 [vI 0, vI 0, vI (-1), vI 0, vI 0, vI 0, vI 0, vI 0, vI 0, vR (h.1 + 0), vR (h.1 + 1), vR (h.1 + 2), vN, vN] := x3_15
  have ha0_15 : gt h_15 (h.1 + 0) = cA 0 10 (fun _ => 0) := (x4_15 _ (by omega)).trans ha0_14
  have ha1_15 : gt h_15 (h.1 + 1) = cA 0 7 (fun _ => 0) := (x4_15 _ (by omega)).trans ha1_14
  have ha2_15 : gt h_15 (h.1 + 2) = cA 0 10 (fun _ => 0) := (x4_15 _ (by omega)).trans ha2_14
  have hf_15 : ∀ B, B ≠ b → (B < h.1 ∨ h.1 + 5 ≤ B) → gt h_15 B = gt h B := fun B q1 q2 => (x4_15 B q1).trans (hf_14 B q1 q2)
  refine xh_pu (ls' := [vR b]) (st' := [vR b]) (dg dc0 41 rfl) rfl rfl ?_
  refine xh_pu (ls' := [vR b]) (st' := [vI 10, vR b]) (dg dc0 42 rfl) rfl rfl ?_
  refine xh_newa (n9 := 10) (dg dc0 43 rfl) rfl rfl (fun h_16 e_16 => ?_)
  obtain ⟨x1_16, x2_16, x3_16, x4_16⟩ := e_16
  have hn_16 : h_16.1 = h.1 + 4 := by rw [x1_16, hn_15]
  have hs_16 : h_16.2.1 = h.2.1 + 37 := by rw [x2_16, hs_15]
  have hg_16 : gt h_16 b = cO 0 [vI 0, vI 0, vI (-1), vI 0, vI 0, vI 0, vI 0, vI 0, vI 0, vR (h.1 + 0), vR (h.1 + 1), vR (h.1 + 2), vN, vN] := (x4_16 b (by omega)).trans hg_15
  have ha0_16 : gt h_16 (h.1 + 0) = cA 0 10 (fun _ => 0) := (x4_16 _ (by omega)).trans ha0_15
  have ha1_16 : gt h_16 (h.1 + 1) = cA 0 7 (fun _ => 0) := (x4_16 _ (by omega)).trans ha1_15
  have ha2_16 : gt h_16 (h.1 + 2) = cA 0 10 (fun _ => 0) := (x4_16 _ (by omega)).trans ha2_15
  have ha3_16 : gt h_16 (h.1 + 3) = cA 0 10 (fun _ => 0) := by rw [← hn_15]; exact x3_16
  have hf_16 : ∀ B, B ≠ b → (B < h.1 ∨ h.1 + 5 ≤ B) → gt h_16 B = gt h B := fun B q1 q2 => (x4_16 B (by omega)).trans (hf_15 B q1 q2)
  rw [show h_15.1 = h.1 + 3 from hn_15]
  refine xh_put (dg dc0 44 rfl) rfl (by omega) hg_16 rfl rfl (fun h_17 e_17 => ?_)
  obtain ⟨x1_17, x2_17, x3_17, x4_17⟩ := e_17
  have hn_17 : h_17.1 = h.1 + 4 := by rw [x1_17, hn_16]
  have hs_17 : h_17.2.1 = h.2.1 + 37 := by rw [x2_17, hs_16]
  have hg_17 : gt h_17 b = cO 0 [vI 0, vI 0, vI (-1), vI 0, vI 0, vI 0, vI 0, vI 0, vI 0, vR (h.1 + 0), vR (h.1 + 1), vR (h.1 + 2), vR (h.1 + 3), vN] := x3_17
  have ha0_17 : gt h_17 (h.1 + 0) = cA 0 10 (fun _ => 0) := (x4_17 _ (by omega)).trans ha0_16
  have ha1_17 : gt h_17 (h.1 + 1) = cA 0 7 (fun _ => 0) := (x4_17 _ (by omega)).trans ha1_16
  have ha2_17 : gt h_17 (h.1 + 2) = cA 0 10 (fun _ => 0) := (x4_17 _ (by omega)).trans ha2_16
  have ha3_17 : gt h_17 (h.1 + 3) = cA 0 10 (fun _ => 0) := (x4_17 _ (by omega)).trans ha3_16
  have hf_17 : ∀ B, B ≠ b → (B < h.1 ∨ h.1 + 5 ≤ B) → gt h_17 B = gt h B := fun B q1 q2 => (x4_17 B q1).trans (hf_16 B q1 q2)
  refine xh_pu (ls' := [vR b]) (st' := [vR b]) (dg dc0 45 rfl) rfl rfl ?_
  refine xh_pu (ls' := [vR b]) (st' := [vI 10, vR b]) (dg dc0 46 rfl) rfl rfl ?_
  refine xh_newa (n9 := 10) (dg dc0 47 rfl) rfl rfl (fun h_18 e_18 => ?_)
  obtain ⟨x1_18, x2_18, x3_18, x4_18⟩ := e_18
  have hn_18 : h_18.1 = h.1 + 5 := by rw [x1_18, hn_17]
  have hs_18 : h_18.2.1 = h.2.1 + 47 := by rw [x2_18, hs_17]
  have hg_18 : gt h_18 b = cO 0 [vI 0, vI 0, vI (-1), vI 0, vI 0, vI 0, vI 0, vI 0, vI 0, vR (h.1 + 0), vR (h.1 + 1), vR (h.1 + 2), vR (h.1 + 3), vN] := (x4_18 b (by omega)).trans hg_17
  have ha0_18 : gt h_18 (h.1 + 0) = cA 0 10 (fun _ => 0) := (x4_18 _ (by omega)).trans ha0_17
  have ha1_18 : gt h_18 (h.1 + 1) = cA 0 7 (fun _ => 0) := (x4_18 _ (by omega)).trans ha1_17
  have ha2_18 : gt h_18 (h.1 + 2) = cA 0 10 (fun _ => 0) := (x4_18 _ (by omega)).trans ha2_17
  have ha3_18 : gt h_18 (h.1 + 3) = cA 0 10 (fun _ => 0) := (x4_18 _ (by omega)).trans ha3_17
  have ha4_18 : gt h_18 (h.1 + 4) = cA 0 10 (fun _ => 0) := by rw [← hn_17]; exact x3_18
  have hf_18 : ∀ B, B ≠ b → (B < h.1 ∨ h.1 + 5 ≤ B) → gt h_18 B = gt h B := fun B q1 q2 => (x4_18 B (by omega)).trans (hf_17 B q1 q2)
  rw [show h_17.1 = h.1 + 4 from hn_17]
  refine xh_put (dg dc0 48 rfl) rfl (by omega) hg_18 rfl rfl (fun h_19 e_19 => ?_)
  obtain ⟨x1_19, x2_19, x3_19, x4_19⟩ := e_19
  have hn_19 : h_19.1 = h.1 + 5 := by rw [x1_19, hn_18]
  have hs_19 : h_19.2.1 = h.2.1 + 47 := by rw [x2_19, hs_18]
  have hg_19 : gt h_19 b = cO 0 [vI 0, vI 0, vI (-1), vI 0, vI 0, vI 0, vI 0, vI 0, vI 0, vR (h.1 + 0), vR (h.1 + 1), vR (h.1 + 2), vR (h.1 + 3), vR (h.1 + 4)] := x3_19
  have ha0_19 : gt h_19 (h.1 + 0) = cA 0 10 (fun _ => 0) := (x4_19 _ (by omega)).trans ha0_18
  have ha1_19 : gt h_19 (h.1 + 1) = cA 0 7 (fun _ => 0) := (x4_19 _ (by omega)).trans ha1_18
  have ha2_19 : gt h_19 (h.1 + 2) = cA 0 10 (fun _ => 0) := (x4_19 _ (by omega)).trans ha2_18
  have ha3_19 : gt h_19 (h.1 + 3) = cA 0 10 (fun _ => 0) := (x4_19 _ (by omega)).trans ha3_18
  have ha4_19 : gt h_19 (h.1 + 4) = cA 0 10 (fun _ => 0) := (x4_19 _ (by omega)).trans ha4_18
  have hf_19 : ∀ B, B ≠ b → (B < h.1 ∨ h.1 + 5 ≤ B) → gt h_19 B = gt h B := fun B q1 q2 => (x4_19 B q1).trans (hf_18 B q1 q2)
  refine xh_pu (ls' := [vR b]) (st' := [vR b]) (dg dc0 49 rfl) rfl rfl ?_
  refine xh_get (v := vR (h.1 + 0)) (dg dc0 50 rfl) rfl (by omega) hg_19 rfl ?_
  refine xh_pu (ls' := [vR b]) (st' := [vI (-1), vR (h.1 + 0)]) (dg dc0 51 rfl) rfl rfl ?_
  refine xh_call (vs := [vR (h.1 + 0), vI (-1)]) (st' := []) (Or.inl ⟨rfl, (dg dc0 52 rfl)⟩) rfl rfl (calO_of rfl (Or.inl rfl)) (xh_fill (n := 10) (f := fun _ => 0) (by omega) ha0_19 rfl) (fun r h_20 hp => ?_)
  obtain ⟨rfl, e_20⟩ := hp
  refine ⟨none, rfl, ?_⟩
  obtain ⟨x1_20, x2_20, x3_20, x4_20⟩ := e_20
  have hn_20 : h_20.1 = h.1 + 5 := by rw [x1_20, hn_19]
  have hs_20 : h_20.2.1 = h.2.1 + 47 := by rw [x2_20, hs_19]
  have hg_20 : gt h_20 b = cO 0 [vI 0, vI 0, vI (-1), vI 0, vI 0, vI 0, vI 0, vI 0, vI 0, vR (h.1 + 0), vR (h.1 + 1), vR (h.1 + 2), vR (h.1 + 3), vR (h.1 + 4)] := (x4_20 b (by omega)).trans hg_19
  have ha0_20 : gt h_20 (h.1 + 0) = cA 0 10 (fun j => if j < 10 then ((-1)) else 0) := x3_20
  have ha1_20 : gt h_20 (h.1 + 1) = cA 0 7 (fun _ => 0) := (x4_20 _ (by omega)).trans ha1_19
  have ha2_20 : gt h_20 (h.1 + 2) = cA 0 10 (fun _ => 0) := (x4_20 _ (by omega)).trans ha2_19
  have ha3_20 : gt h_20 (h.1 + 3) = cA 0 10 (fun _ => 0) := (x4_20 _ (by omega)).trans ha3_19
  have ha4_20 : gt h_20 (h.1 + 4) = cA 0 10 (fun _ => 0) := (x4_20 _ (by omega)).trans ha4_19
  have hf_20 : ∀ B, B ≠ b → (B < h.1 ∨ h.1 + 5 ≤ B) → gt h_20 B = gt h B := fun B q1 q2 => (x4_20 B (by omega)).trans (hf_19 B q1 q2)
  exact xh_vre (dg dc0 53 rfl) rfl ⟨rfl, hn_20, hs_20, hg_20, ha0_20, ha1_20, ha2_20, ha3_20, ha4_20, hf_20⟩
def il74 : List (Nat × Instr × Nat) := [(0, .aload_n 0, 1), (1, .invokespecial 3, 3), (4, .aload_n 0, 1), (5, .aload_n 1, 1), (6, .putfield 9, 3), (9, .aload_n 0, 1), (10, .aload_n 2, 1), (11, .putfield 15, 3), (14, .aload_n 0, 1), (15, .aload_n 3, 1), (16, .putfield 19, 3), (19, .return_, 1)]
theorem dc74 : dcs (mC 74) il74 := dc_of (by decide +kernel)
set_option maxRecDepth 4000 in
theorem ctor74 {d : Nat} {h : AH} {b p1 p2 p3 : Nat} (hb : b < h.1) (hg : gt h b = cO 8 [vN, vN, vN]) : XH d 74 0 (ent 74 [vR b, vR p1, vR p2, vR p3]) [] h (fun r h1 => r = rV ∧ h1.1 = h.1 + 0 ∧ h1.2.1 = h.2.1 + 0 ∧ gt h1 b = cO 8 [vR p1, vR p2, vR p3] ∧ ∀ B, B ≠ b → (B < h.1 ∨ h.1 + 0 ≤ B) → gt h1 B = gt h B) := by
  show XH d 74 0 [vR b, vR p1, vR p2, vR p3] [] h _
  have hn_0 : h.1 = h.1 + 0 := rfl
  have hs_0 : h.2.1 = h.2.1 + 0 := rfl
  have hg_0 : gt h b = cO 8 [vN, vN, vN] := hg
  have hf_0 : ∀ B, B ≠ b → (B < h.1 ∨ h.1 + 0 ≤ B) → gt h B = gt h B := fun _ _ _ => rfl
  refine xh_pu (ls' := [vR b, vR p1, vR p2, vR p3]) (st' := [vR b]) (dg dc74 0 rfl) rfl rfl ?_
  refine xh_oin (dg dc74 1 rfl) rfl (by omega) rfl ?_
  refine xh_pu (ls' := [vR b, vR p1, vR p2, vR p3]) (st' := [vR b]) (dg dc74 2 rfl) rfl rfl ?_
  refine xh_pu (ls' := [vR b, vR p1, vR p2, vR p3]) (st' := [vR p1, vR b]) (dg dc74 3 rfl) rfl rfl ?_
  refine xh_put (dg dc74 4 rfl) rfl (by omega) hg_0 rfl rfl (fun h_1 e_1 => ?_)
  obtain ⟨x1_1, x2_1, x3_1, x4_1⟩ := e_1
  have hn_1 : h_1.1 = h.1 + 0 := by rw [x1_1, hn_0]
  have hs_1 : h_1.2.1 = h.2.1 + 0 := by rw [x2_1, hs_0]
  have hg_1 : gt h_1 b = cO 8 [vR p1, vN, vN] := x3_1
  have hf_1 : ∀ B, B ≠ b → (B < h.1 ∨ h.1 + 0 ≤ B) → gt h_1 B = gt h B := fun B q1 q2 => (x4_1 B q1).trans (hf_0 B q1 q2)
  refine xh_pu (ls' := [vR b, vR p1, vR p2, vR p3]) (st' := [vR b]) (dg dc74 5 rfl) rfl rfl ?_
  refine xh_pu (ls' := [vR b, vR p1, vR p2, vR p3]) (st' := [vR p2, vR b]) (dg dc74 6 rfl) rfl rfl ?_
  refine xh_put (dg dc74 7 rfl) rfl (by omega) hg_1 rfl rfl (fun h_2 e_2 => ?_)
  obtain ⟨x1_2, x2_2, x3_2, x4_2⟩ := e_2
  have hn_2 : h_2.1 = h.1 + 0 := by rw [x1_2, hn_1]
  have hs_2 : h_2.2.1 = h.2.1 + 0 := by rw [x2_2, hs_1]
  have hg_2 : gt h_2 b = cO 8 [vR p1, vR p2, vN] := x3_2
  have hf_2 : ∀ B, B ≠ b → (B < h.1 ∨ h.1 + 0 ≤ B) → gt h_2 B = gt h B := fun B q1 q2 => (x4_2 B q1).trans (hf_1 B q1 q2)
  refine xh_pu (ls' := [vR b, vR p1, vR p2, vR p3]) (st' := [vR b]) (dg dc74 8 rfl) rfl rfl ?_
  refine xh_pu (ls' := [vR b, vR p1, vR p2, vR p3]) (st' := [vR p3, vR b]) (dg dc74 9 rfl) rfl rfl ?_
  refine xh_put (dg dc74 10 rfl) rfl (by omega) hg_2 rfl rfl (fun h_3 e_3 => ?_)
  obtain ⟨x1_3, x2_3, x3_3, x4_3⟩ := e_3
  have hn_3 : h_3.1 = h.1 + 0 := by rw [x1_3, hn_2]
  have hs_3 : h_3.2.1 = h.2.1 + 0 := by rw [x2_3, hs_2]
  have hg_3 : gt h_3 b = cO 8 [vR p1, vR p2, vR p3] := x3_3
  have hf_3 : ∀ B, B ≠ b → (B < h.1 ∨ h.1 + 0 ≤ B) → gt h_3 B = gt h B := fun B q1 q2 => (x4_3 B q1).trans (hf_2 B q1 q2)
  exact xh_vre (dg dc74 11 rfl) rfl ⟨rfl, hn_3, hs_3, hg_3, hf_3⟩
def il27 : List (Nat × Instr × Nat) := [(0, .aload_n 0, 1), (1, .invokespecial 3, 3), (4, .aload_n 0, 1), (5, .aload_n 1, 1), (6, .putfield 9, 3), (9, .aload_n 0, 1), (10, .aload_n 2, 1), (11, .putfield 15, 3), (14, .return_, 1)]
theorem dc27 : dcs (mC 27) il27 := dc_of (by decide +kernel)
set_option maxRecDepth 4000 in
theorem ctor27 {d : Nat} {h : AH} {b p1 p2 : Nat} (hb : b < h.1) (hg : gt h b = cO 3 [vN, vN]) : XH d 27 0 (ent 27 [vR b, vR p1, vR p2]) [] h (fun r h1 => r = rV ∧ h1.1 = h.1 + 0 ∧ h1.2.1 = h.2.1 + 0 ∧ gt h1 b = cO 3 [vR p1, vR p2] ∧ ∀ B, B ≠ b → (B < h.1 ∨ h.1 + 0 ≤ B) → gt h1 B = gt h B) := by
  show XH d 27 0 [vR b, vR p1, vR p2] [] h _
  have hn_0 : h.1 = h.1 + 0 := rfl
  have hs_0 : h.2.1 = h.2.1 + 0 := rfl
  have hg_0 : gt h b = cO 3 [vN, vN] := hg
  have hf_0 : ∀ B, B ≠ b → (B < h.1 ∨ h.1 + 0 ≤ B) → gt h B = gt h B := fun _ _ _ => rfl
  refine xh_pu (ls' := [vR b, vR p1, vR p2]) (st' := [vR b]) (dg dc27 0 rfl) rfl rfl ?_
  refine xh_oin (dg dc27 1 rfl) rfl (by omega) rfl ?_
  refine xh_pu (ls' := [vR b, vR p1, vR p2]) (st' := [vR b]) (dg dc27 2 rfl) rfl rfl ?_
  refine xh_pu (ls' := [vR b, vR p1, vR p2]) (st' := [vR p1, vR b]) (dg dc27 3 rfl) rfl rfl ?_
  refine xh_put (dg dc27 4 rfl) rfl (by omega) hg_0 rfl rfl (fun h_1 e_1 => ?_)
  obtain ⟨x1_1, x2_1, x3_1, x4_1⟩ := e_1
  have hn_1 : h_1.1 = h.1 + 0 := by rw [x1_1, hn_0]
  have hs_1 : h_1.2.1 = h.2.1 + 0 := by rw [x2_1, hs_0]
  have hg_1 : gt h_1 b = cO 3 [vR p1, vN] := x3_1
  have hf_1 : ∀ B, B ≠ b → (B < h.1 ∨ h.1 + 0 ≤ B) → gt h_1 B = gt h B := fun B q1 q2 => (x4_1 B q1).trans (hf_0 B q1 q2)
  refine xh_pu (ls' := [vR b, vR p1, vR p2]) (st' := [vR b]) (dg dc27 5 rfl) rfl rfl ?_
  refine xh_pu (ls' := [vR b, vR p1, vR p2]) (st' := [vR p2, vR b]) (dg dc27 6 rfl) rfl rfl ?_
  refine xh_put (dg dc27 7 rfl) rfl (by omega) hg_1 rfl rfl (fun h_2 e_2 => ?_)
  obtain ⟨x1_2, x2_2, x3_2, x4_2⟩ := e_2
  have hn_2 : h_2.1 = h.1 + 0 := by rw [x1_2, hn_1]
  have hs_2 : h_2.2.1 = h.2.1 + 0 := by rw [x2_2, hs_1]
  have hg_2 : gt h_2 b = cO 3 [vR p1, vR p2] := x3_2
  have hf_2 : ∀ B, B ≠ b → (B < h.1 ∨ h.1 + 0 ≤ B) → gt h_2 B = gt h B := fun B q1 q2 => (x4_2 B q1).trans (hf_1 B q1 q2)
  exact xh_vre (dg dc27 8 rfl) rfl ⟨rfl, hn_2, hs_2, hg_2, hf_2⟩
def il71 : List (Nat × Instr × Nat) := [(0, .aload_n 0, 1), (1, .invokespecial 3, 3), (4, .aload_n 0, 1), (5, .iconst 0, 1), (6, .putfield 9, 3), (9, .aload_n 0, 1), (10, .iconst 0, 1), (11, .putfield 15, 3), (14, .aload_n 0, 1), (15, .aload_n 1, 1), (16, .putfield 19, 3), (19, .aload_n 0, 1), (20, .aload_n 2, 1), (21, .putfield 23, 3), (24, .return_, 1)]
theorem dc71 : dcs (mC 71) il71 := dc_of (by decide +kernel)
set_option maxRecDepth 4000 in
theorem ctor71 {d : Nat} {h : AH} {b p1 p2 : Nat} (hb : b < h.1) (hg : gt h b = cO 7 [vI 0, vI 0, vN, vN]) : XH d 71 0 (ent 71 [vR b, vR p1, vR p2]) [] h (fun r h1 => r = rV ∧ h1.1 = h.1 + 0 ∧ h1.2.1 = h.2.1 + 0 ∧ gt h1 b = cO 7 [vI 0, vI 0, vR p1, vR p2] ∧ ∀ B, B ≠ b → (B < h.1 ∨ h.1 + 0 ≤ B) → gt h1 B = gt h B) := by
  show XH d 71 0 [vR b, vR p1, vR p2] [] h _
  have hn_0 : h.1 = h.1 + 0 := rfl
  have hs_0 : h.2.1 = h.2.1 + 0 := rfl
  have hg_0 : gt h b = cO 7 [vI 0, vI 0, vN, vN] := hg
  have hf_0 : ∀ B, B ≠ b → (B < h.1 ∨ h.1 + 0 ≤ B) → gt h B = gt h B := fun _ _ _ => rfl
  refine xh_pu (ls' := [vR b, vR p1, vR p2]) (st' := [vR b]) (dg dc71 0 rfl) rfl rfl ?_
  refine xh_oin (dg dc71 1 rfl) rfl (by omega) rfl ?_
  refine xh_pu (ls' := [vR b, vR p1, vR p2]) (st' := [vR b]) (dg dc71 2 rfl) rfl rfl ?_
  refine xh_pu (ls' := [vR b, vR p1, vR p2]) (st' := [vI 0, vR b]) (dg dc71 3 rfl) rfl rfl ?_
  refine xh_put (dg dc71 4 rfl) rfl (by omega) hg_0 rfl rfl (fun h_1 e_1 => ?_)
  obtain ⟨x1_1, x2_1, x3_1, x4_1⟩ := e_1
  have hn_1 : h_1.1 = h.1 + 0 := by rw [x1_1, hn_0]
  have hs_1 : h_1.2.1 = h.2.1 + 0 := by rw [x2_1, hs_0]
  have hg_1 : gt h_1 b = cO 7 [vI 0, vI 0, vN, vN] := x3_1
  have hf_1 : ∀ B, B ≠ b → (B < h.1 ∨ h.1 + 0 ≤ B) → gt h_1 B = gt h B := fun B q1 q2 => (x4_1 B q1).trans (hf_0 B q1 q2)
  refine xh_pu (ls' := [vR b, vR p1, vR p2]) (st' := [vR b]) (dg dc71 5 rfl) rfl rfl ?_
  refine xh_pu (ls' := [vR b, vR p1, vR p2]) (st' := [vI 0, vR b]) (dg dc71 6 rfl) rfl rfl ?_
  refine xh_put (dg dc71 7 rfl) rfl (by omega) hg_1 rfl rfl (fun h_2 e_2 => ?_)
  obtain ⟨x1_2, x2_2, x3_2, x4_2⟩ := e_2
  have hn_2 : h_2.1 = h.1 + 0 := by rw [x1_2, hn_1]
  have hs_2 : h_2.2.1 = h.2.1 + 0 := by rw [x2_2, hs_1]
  have hg_2 : gt h_2 b = cO 7 [vI 0, vI 0, vN, vN] := x3_2
  have hf_2 : ∀ B, B ≠ b → (B < h.1 ∨ h.1 + 0 ≤ B) → gt h_2 B = gt h B := fun B q1 q2 => (x4_2 B q1).trans (hf_1 B q1 q2)
  refine xh_pu (ls' := [vR b, vR p1, vR p2]) (st' := [vR b]) (dg dc71 8 rfl) rfl rfl ?_
  refine xh_pu (ls' := [vR b, vR p1, vR p2]) (st' := [vR p1, vR b]) (dg dc71 9 rfl) rfl rfl ?_
  refine xh_put (dg dc71 10 rfl) rfl (by omega) hg_2 rfl rfl (fun h_3 e_3 => ?_)
  obtain ⟨x1_3, x2_3, x3_3, x4_3⟩ := e_3
  have hn_3 : h_3.1 = h.1 + 0 := by rw [x1_3, hn_2]
  have hs_3 : h_3.2.1 = h.2.1 + 0 := by rw [x2_3, hs_2]
  have hg_3 : gt h_3 b = cO 7 [vI 0, vI 0, vR p1, vN] := x3_3
  have hf_3 : ∀ B, B ≠ b → (B < h.1 ∨ h.1 + 0 ≤ B) → gt h_3 B = gt h B := fun B q1 q2 => (x4_3 B q1).trans (hf_2 B q1 q2)
  refine xh_pu (ls' := [vR b, vR p1, vR p2]) (st' := [vR b]) (dg dc71 11 rfl) rfl rfl ?_
  refine xh_pu (ls' := [vR b, vR p1, vR p2]) (st' := [vR p2, vR b]) (dg dc71 12 rfl) rfl rfl ?_
  refine xh_put (dg dc71 13 rfl) rfl (by omega) hg_3 rfl rfl (fun h_4 e_4 => ?_)
  obtain ⟨x1_4, x2_4, x3_4, x4_4⟩ := e_4
  have hn_4 : h_4.1 = h.1 + 0 := by rw [x1_4, hn_3]
  have hs_4 : h_4.2.1 = h.2.1 + 0 := by rw [x2_4, hs_3]
  have hg_4 : gt h_4 b = cO 7 [vI 0, vI 0, vR p1, vR p2] := x3_4
  have hf_4 : ∀ B, B ≠ b → (B < h.1 ∨ h.1 + 0 ≤ B) → gt h_4 B = gt h B := fun B q1 q2 => (x4_4 B q1).trans (hf_3 B q1 q2)
  exact xh_vre (dg dc71 14 rfl) rfl ⟨rfl, hn_4, hs_4, hg_4, hf_4⟩
def il101 : List (Nat × Instr × Nat) := [(0, .aload_n 0, 1), (1, .invokespecial 3, 3), (4, .aload_n 0, 1), (5, .bipush 10, 2), (7, .newarray .int, 2), (9, .putfield 9, 3), (12, .aload_n 0, 1), (13, .bipush 10, 2), (15, .newarray .int, 2), (17, .putfield 15, 3), (20, .aload_n 0, 1), (21, .aload_n 1, 1), (22, .putfield 18, 3), (25, .return_, 1)]
theorem dc101 : dcs (mC 101) il101 := dc_of (by decide +kernel)
set_option maxRecDepth 4000 in
theorem ctor101 {d : Nat} {h : AH} {b p1 : Nat} (hb : b < h.1) (hg : gt h b = cO 10 [vN, vN, vN]) : XH d 101 0 (ent 101 [vR b, vR p1]) [] h (fun r h1 => r = rV ∧ h1.1 = h.1 + 2 ∧ h1.2.1 = h.2.1 + 20 ∧ gt h1 b = cO 10 [vR p1, vR (h.1 + 0), vR (h.1 + 1)] ∧ gt h1 (h.1 + 0) = cA 0 10 (fun _ => 0) ∧ gt h1 (h.1 + 1) = cA 0 10 (fun _ => 0) ∧ ∀ B, B ≠ b → (B < h.1 ∨ h.1 + 2 ≤ B) → gt h1 B = gt h B) := by
  show XH d 101 0 [vR b, vR p1] [] h _
  have hn_0 : h.1 = h.1 + 0 := rfl
  have hs_0 : h.2.1 = h.2.1 + 0 := rfl
  have hg_0 : gt h b = cO 10 [vN, vN, vN] := hg
  have hf_0 : ∀ B, B ≠ b → (B < h.1 ∨ h.1 + 2 ≤ B) → gt h B = gt h B := fun _ _ _ => rfl
  refine xh_pu (ls' := [vR b, vR p1]) (st' := [vR b]) (dg dc101 0 rfl) rfl rfl ?_
  refine xh_oin (dg dc101 1 rfl) rfl (by omega) rfl ?_
  refine xh_pu (ls' := [vR b, vR p1]) (st' := [vR b]) (dg dc101 2 rfl) rfl rfl ?_
  refine xh_pu (ls' := [vR b, vR p1]) (st' := [vI 10, vR b]) (dg dc101 3 rfl) rfl rfl ?_
  refine xh_newa (n9 := 10) (dg dc101 4 rfl) rfl rfl (fun h_1 e_1 => ?_)
  obtain ⟨x1_1, x2_1, x3_1, x4_1⟩ := e_1
  have hn_1 : h_1.1 = h.1 + 1 := by rw [x1_1, hn_0]
  have hs_1 : h_1.2.1 = h.2.1 + 10 := by rw [x2_1, hs_0]
  have hg_1 : gt h_1 b = cO 10 [vN, vN, vN] := (x4_1 b (by omega)).trans hg_0
  have ha0_1 : gt h_1 (h.1 + 0) = cA 0 10 (fun _ => 0) := by rw [← hn_0]; exact x3_1
  have hf_1 : ∀ B, B ≠ b → (B < h.1 ∨ h.1 + 2 ≤ B) → gt h_1 B = gt h B := fun B q1 q2 => (x4_1 B (by omega)).trans (hf_0 B q1 q2)
  show XH _ 101 _ _ (vR (h.1 + 0) :: _) _ _
  refine xh_put (dg dc101 5 rfl) rfl (by omega) hg_1 rfl rfl (fun h_2 e_2 => ?_)
  obtain ⟨x1_2, x2_2, x3_2, x4_2⟩ := e_2
  have hn_2 : h_2.1 = h.1 + 1 := by rw [x1_2, hn_1]
  have hs_2 : h_2.2.1 = h.2.1 + 10 := by rw [x2_2, hs_1]
  have hg_2 : gt h_2 b = cO 10 [vN, vR (h.1 + 0), vN] := x3_2
  have ha0_2 : gt h_2 (h.1 + 0) = cA 0 10 (fun _ => 0) := (x4_2 _ (by omega)).trans ha0_1
  have hf_2 : ∀ B, B ≠ b → (B < h.1 ∨ h.1 + 2 ≤ B) → gt h_2 B = gt h B := fun B q1 q2 => (x4_2 B q1).trans (hf_1 B q1 q2)
  refine xh_pu (ls' := [vR b, vR p1]) (st' := [vR b]) (dg dc101 6 rfl) rfl rfl ?_
  refine xh_pu (ls' := [vR b, vR p1]) (st' := [vI 10, vR b]) (dg dc101 7 rfl) rfl rfl ?_
  refine xh_newa (n9 := 10) (dg dc101 8 rfl) rfl rfl (fun h_3 e_3 => ?_)
  obtain ⟨x1_3, x2_3, x3_3, x4_3⟩ := e_3
  have hn_3 : h_3.1 = h.1 + 2 := by rw [x1_3, hn_2]
  have hs_3 : h_3.2.1 = h.2.1 + 20 := by rw [x2_3, hs_2]
  have hg_3 : gt h_3 b = cO 10 [vN, vR (h.1 + 0), vN] := (x4_3 b (by omega)).trans hg_2
  have ha0_3 : gt h_3 (h.1 + 0) = cA 0 10 (fun _ => 0) := (x4_3 _ (by omega)).trans ha0_2
  have ha1_3 : gt h_3 (h.1 + 1) = cA 0 10 (fun _ => 0) := by rw [← hn_2]; exact x3_3
  have hf_3 : ∀ B, B ≠ b → (B < h.1 ∨ h.1 + 2 ≤ B) → gt h_3 B = gt h B := fun B q1 q2 => (x4_3 B (by omega)).trans (hf_2 B q1 q2)
  rw [show h_2.1 = h.1 + 1 from hn_2]
  refine xh_put (dg dc101 9 rfl) rfl (by omega) hg_3 rfl rfl (fun h_4 e_4 => ?_)
  obtain ⟨x1_4, x2_4, x3_4, x4_4⟩ := e_4
  have hn_4 : h_4.1 = h.1 + 2 := by rw [x1_4, hn_3]
  have hs_4 : h_4.2.1 = h.2.1 + 20 := by rw [x2_4, hs_3]
  have hg_4 : gt h_4 b = cO 10 [vN, vR (h.1 + 0), vR (h.1 + 1)] := x3_4
  have ha0_4 : gt h_4 (h.1 + 0) = cA 0 10 (fun _ => 0) := (x4_4 _ (by omega)).trans ha0_3
  have ha1_4 : gt h_4 (h.1 + 1) = cA 0 10 (fun _ => 0) := (x4_4 _ (by omega)).trans ha1_3
  have hf_4 : ∀ B, B ≠ b → (B < h.1 ∨ h.1 + 2 ≤ B) → gt h_4 B = gt h B := fun B q1 q2 => (x4_4 B q1).trans (hf_3 B q1 q2)
  refine xh_pu (ls' := [vR b, vR p1]) (st' := [vR b]) (dg dc101 10 rfl) rfl rfl ?_
  refine xh_pu (ls' := [vR b, vR p1]) (st' := [vR p1, vR b]) (dg dc101 11 rfl) rfl rfl ?_
  refine xh_put (dg dc101 12 rfl) rfl (by omega) hg_4 rfl rfl (fun h_5 e_5 => ?_)
  obtain ⟨x1_5, x2_5, x3_5, x4_5⟩ := e_5
  have hn_5 : h_5.1 = h.1 + 2 := by rw [x1_5, hn_4]
  have hs_5 : h_5.2.1 = h.2.1 + 20 := by rw [x2_5, hs_4]
  have hg_5 : gt h_5 b = cO 10 [vR p1, vR (h.1 + 0), vR (h.1 + 1)] := x3_5
  have ha0_5 : gt h_5 (h.1 + 0) = cA 0 10 (fun _ => 0) := (x4_5 _ (by omega)).trans ha0_4
  have ha1_5 : gt h_5 (h.1 + 1) = cA 0 10 (fun _ => 0) := (x4_5 _ (by omega)).trans ha1_4
  have hf_5 : ∀ B, B ≠ b → (B < h.1 ∨ h.1 + 2 ≤ B) → gt h_5 B = gt h B := fun B q1 q2 => (x4_5 B q1).trans (hf_4 B q1 q2)
  exact xh_vre (dg dc101 13 rfl) rfl ⟨rfl, hn_5, hs_5, hg_5, ha0_5, ha1_5, hf_5⟩
def il40 : List (Nat × Instr × Nat) := [(0, .aload_n 0, 1), (1, .invokespecial 3, 3), (4, .aload_n 0, 1), (5, .bipush 7, 2), (7, .newarray .int, 2), (9, .putfield 9, 3), (12, .aload_n 0, 1), (13, .bipush 7, 2), (15, .newarray .int, 2), (17, .putfield 15, 3), (20, .aload_n 0, 1), (21, .sipush 128, 3), (24, .newarray .int, 2), (26, .putfield 18, 3), (29, .aload_n 0, 1), (30, .aload_n 1, 1), (31, .putfield 21, 3), (34, .aload_n 0, 1), (35, .aload_n 2, 1), (36, .putfield 25, 3), (39, .aload_n 0, 1), (40, .aload_n 3, 1), (41, .putfield 29, 3), (44, .aload_n 0, 1), (45, .ldc 33, 2), (47, .putfield 34, 3), (50, .return_, 1)]
theorem dc40 : dcs (mC 40) il40 := dc_of (by decide +kernel)
set_option maxRecDepth 4000 in
theorem ctor40 {d : Nat} {h : AH} {b p1 p2 p3 : Nat} (hb : b < h.1) (hg : gt h b = cO 5 [vN, vN, vN, vN, vN, vI 0, vN]) : XH d 40 0 (ent 40 [vR b, vR p1, vR p2, vR p3]) [] h (fun r h1 => r = rV ∧ h1.1 = h.1 + 3 ∧ h1.2.1 = h.2.1 + 142 ∧ gt h1 b = cO 5 [vR p1, vR p2, vR p3, vR (h.1 + 0), vR (h.1 + 1), vI 1000000000, vR (h.1 + 2)] ∧ gt h1 (h.1 + 0) = cA 0 7 (fun _ => 0) ∧ gt h1 (h.1 + 1) = cA 0 7 (fun _ => 0) ∧ gt h1 (h.1 + 2) = cA 0 128 (fun _ => 0) ∧ ∀ B, B ≠ b → (B < h.1 ∨ h.1 + 3 ≤ B) → gt h1 B = gt h B) := by
  show XH d 40 0 [vR b, vR p1, vR p2, vR p3] [] h _
  have hn_0 : h.1 = h.1 + 0 := rfl
  have hs_0 : h.2.1 = h.2.1 + 0 := rfl
  have hg_0 : gt h b = cO 5 [vN, vN, vN, vN, vN, vI 0, vN] := hg
  have hf_0 : ∀ B, B ≠ b → (B < h.1 ∨ h.1 + 3 ≤ B) → gt h B = gt h B := fun _ _ _ => rfl
  refine xh_pu (ls' := [vR b, vR p1, vR p2, vR p3]) (st' := [vR b]) (dg dc40 0 rfl) rfl rfl ?_
  refine xh_oin (dg dc40 1 rfl) rfl (by omega) rfl ?_
  refine xh_pu (ls' := [vR b, vR p1, vR p2, vR p3]) (st' := [vR b]) (dg dc40 2 rfl) rfl rfl ?_
  refine xh_pu (ls' := [vR b, vR p1, vR p2, vR p3]) (st' := [vI 7, vR b]) (dg dc40 3 rfl) rfl rfl ?_
  refine xh_newa (n9 := 7) (dg dc40 4 rfl) rfl rfl (fun h_1 e_1 => ?_)
  obtain ⟨x1_1, x2_1, x3_1, x4_1⟩ := e_1
  have hn_1 : h_1.1 = h.1 + 1 := by rw [x1_1, hn_0]
  have hs_1 : h_1.2.1 = h.2.1 + 7 := by rw [x2_1, hs_0]
  have hg_1 : gt h_1 b = cO 5 [vN, vN, vN, vN, vN, vI 0, vN] := (x4_1 b (by omega)).trans hg_0
  have ha0_1 : gt h_1 (h.1 + 0) = cA 0 7 (fun _ => 0) := by rw [← hn_0]; exact x3_1
  have hf_1 : ∀ B, B ≠ b → (B < h.1 ∨ h.1 + 3 ≤ B) → gt h_1 B = gt h B := fun B q1 q2 => (x4_1 B (by omega)).trans (hf_0 B q1 q2)
  show XH _ 40 _ _ (vR (h.1 + 0) :: _) _ _
  refine xh_put (dg dc40 5 rfl) rfl (by omega) hg_1 rfl rfl (fun h_2 e_2 => ?_)
  obtain ⟨x1_2, x2_2, x3_2, x4_2⟩ := e_2
  have hn_2 : h_2.1 = h.1 + 1 := by rw [x1_2, hn_1]
  have hs_2 : h_2.2.1 = h.2.1 + 7 := by rw [x2_2, hs_1]
  have hg_2 : gt h_2 b = cO 5 [vN, vN, vN, vR (h.1 + 0), vN, vI 0, vN] := x3_2
  have ha0_2 : gt h_2 (h.1 + 0) = cA 0 7 (fun _ => 0) := (x4_2 _ (by omega)).trans ha0_1
  have hf_2 : ∀ B, B ≠ b → (B < h.1 ∨ h.1 + 3 ≤ B) → gt h_2 B = gt h B := fun B q1 q2 => (x4_2 B q1).trans (hf_1 B q1 q2)
  refine xh_pu (ls' := [vR b, vR p1, vR p2, vR p3]) (st' := [vR b]) (dg dc40 6 rfl) rfl rfl ?_
  refine xh_pu (ls' := [vR b, vR p1, vR p2, vR p3]) (st' := [vI 7, vR b]) (dg dc40 7 rfl) rfl rfl ?_
  refine xh_newa (n9 := 7) (dg dc40 8 rfl) rfl rfl (fun h_3 e_3 => ?_)
  obtain ⟨x1_3, x2_3, x3_3, x4_3⟩ := e_3
  have hn_3 : h_3.1 = h.1 + 2 := by rw [x1_3, hn_2]
  have hs_3 : h_3.2.1 = h.2.1 + 14 := by rw [x2_3, hs_2]
  have hg_3 : gt h_3 b = cO 5 [vN, vN, vN, vR (h.1 + 0), vN, vI 0, vN] := (x4_3 b (by omega)).trans hg_2
  have ha0_3 : gt h_3 (h.1 + 0) = cA 0 7 (fun _ => 0) := (x4_3 _ (by omega)).trans ha0_2
  have ha1_3 : gt h_3 (h.1 + 1) = cA 0 7 (fun _ => 0) := by rw [← hn_2]; exact x3_3
  have hf_3 : ∀ B, B ≠ b → (B < h.1 ∨ h.1 + 3 ≤ B) → gt h_3 B = gt h B := fun B q1 q2 => (x4_3 B (by omega)).trans (hf_2 B q1 q2)
  rw [show h_2.1 = h.1 + 1 from hn_2]
  refine xh_put (dg dc40 9 rfl) rfl (by omega) hg_3 rfl rfl (fun h_4 e_4 => ?_)
  obtain ⟨x1_4, x2_4, x3_4, x4_4⟩ := e_4
  have hn_4 : h_4.1 = h.1 + 2 := by rw [x1_4, hn_3]
  have hs_4 : h_4.2.1 = h.2.1 + 14 := by rw [x2_4, hs_3]
  have hg_4 : gt h_4 b = cO 5 [vN, vN, vN, vR (h.1 + 0), vR (h.1 + 1), vI 0, vN] := x3_4
  have ha0_4 : gt h_4 (h.1 + 0) = cA 0 7 (fun _ => 0) := (x4_4 _ (by omega)).trans ha0_3
  have ha1_4 : gt h_4 (h.1 + 1) = cA 0 7 (fun _ => 0) := (x4_4 _ (by omega)).trans ha1_3
  have hf_4 : ∀ B, B ≠ b → (B < h.1 ∨ h.1 + 3 ≤ B) → gt h_4 B = gt h B := fun B q1 q2 => (x4_4 B q1).trans (hf_3 B q1 q2)
  refine xh_pu (ls' := [vR b, vR p1, vR p2, vR p3]) (st' := [vR b]) (dg dc40 10 rfl) rfl rfl ?_
  refine xh_pu (ls' := [vR b, vR p1, vR p2, vR p3]) (st' := [vI 128, vR b]) (dg dc40 11 rfl) rfl rfl ?_
  refine xh_newa (n9 := 128) (dg dc40 12 rfl) rfl rfl (fun h_5 e_5 => ?_)
  obtain ⟨x1_5, x2_5, x3_5, x4_5⟩ := e_5
  have hn_5 : h_5.1 = h.1 + 3 := by rw [x1_5, hn_4]
  have hs_5 : h_5.2.1 = h.2.1 + 142 := by rw [x2_5, hs_4]
  have hg_5 : gt h_5 b = cO 5 [vN, vN, vN, vR (h.1 + 0), vR (h.1 + 1), vI 0, vN] := (x4_5 b (by omega)).trans hg_4
  have ha0_5 : gt h_5 (h.1 + 0) = cA 0 7 (fun _ => 0) := (x4_5 _ (by omega)).trans ha0_4
  have ha1_5 : gt h_5 (h.1 + 1) = cA 0 7 (fun _ => 0) := (x4_5 _ (by omega)).trans ha1_4
  have ha2_5 : gt h_5 (h.1 + 2) = cA 0 128 (fun _ => 0) := by rw [← hn_4]; exact x3_5
  have hf_5 : ∀ B, B ≠ b → (B < h.1 ∨ h.1 + 3 ≤ B) → gt h_5 B = gt h B := fun B q1 q2 => (x4_5 B (by omega)).trans (hf_4 B q1 q2)
  rw [show h_4.1 = h.1 + 2 from hn_4]
  refine xh_put (dg dc40 13 rfl) rfl (by omega) hg_5 rfl rfl (fun h_6 e_6 => ?_)
  obtain ⟨x1_6, x2_6, x3_6, x4_6⟩ := e_6
  have hn_6 : h_6.1 = h.1 + 3 := by rw [x1_6, hn_5]
  have hs_6 : h_6.2.1 = h.2.1 + 142 := by rw [x2_6, hs_5]
  have hg_6 : gt h_6 b = cO 5 [vN, vN, vN, vR (h.1 + 0), vR (h.1 + 1), vI 0, vR (h.1 + 2)] := x3_6
  have ha0_6 : gt h_6 (h.1 + 0) = cA 0 7 (fun _ => 0) := (x4_6 _ (by omega)).trans ha0_5
  have ha1_6 : gt h_6 (h.1 + 1) = cA 0 7 (fun _ => 0) := (x4_6 _ (by omega)).trans ha1_5
  have ha2_6 : gt h_6 (h.1 + 2) = cA 0 128 (fun _ => 0) := (x4_6 _ (by omega)).trans ha2_5
  have hf_6 : ∀ B, B ≠ b → (B < h.1 ∨ h.1 + 3 ≤ B) → gt h_6 B = gt h B := fun B q1 q2 => (x4_6 B q1).trans (hf_5 B q1 q2)
  refine xh_pu (ls' := [vR b, vR p1, vR p2, vR p3]) (st' := [vR b]) (dg dc40 14 rfl) rfl rfl ?_
  refine xh_pu (ls' := [vR b, vR p1, vR p2, vR p3]) (st' := [vR p1, vR b]) (dg dc40 15 rfl) rfl rfl ?_
  refine xh_put (dg dc40 16 rfl) rfl (by omega) hg_6 rfl rfl (fun h_7 e_7 => ?_)
  obtain ⟨x1_7, x2_7, x3_7, x4_7⟩ := e_7
  have hn_7 : h_7.1 = h.1 + 3 := by rw [x1_7, hn_6]
  have hs_7 : h_7.2.1 = h.2.1 + 142 := by rw [x2_7, hs_6]
  have hg_7 : gt h_7 b = cO 5 [vR p1, vN, vN, vR (h.1 + 0), vR (h.1 + 1), vI 0, vR (h.1 + 2)] := x3_7
  have ha0_7 : gt h_7 (h.1 + 0) = cA 0 7 (fun _ => 0) := (x4_7 _ (by omega)).trans ha0_6
  have ha1_7 : gt h_7 (h.1 + 1) = cA 0 7 (fun _ => 0) := (x4_7 _ (by omega)).trans ha1_6
  have ha2_7 : gt h_7 (h.1 + 2) = cA 0 128 (fun _ => 0) := (x4_7 _ (by omega)).trans ha2_6
  have hf_7 : ∀ B, B ≠ b → (B < h.1 ∨ h.1 + 3 ≤ B) → gt h_7 B = gt h B := fun B q1 q2 => (x4_7 B q1).trans (hf_6 B q1 q2)
  refine xh_pu (ls' := [vR b, vR p1, vR p2, vR p3]) (st' := [vR b]) (dg dc40 17 rfl) rfl rfl ?_
  refine xh_pu (ls' := [vR b, vR p1, vR p2, vR p3]) (st' := [vR p2, vR b]) (dg dc40 18 rfl) rfl rfl ?_
  refine xh_put (dg dc40 19 rfl) rfl (by omega) hg_7 rfl rfl (fun h_8 e_8 => ?_)
  obtain ⟨x1_8, x2_8, x3_8, x4_8⟩ := e_8
  have hn_8 : h_8.1 = h.1 + 3 := by rw [x1_8, hn_7]
  have hs_8 : h_8.2.1 = h.2.1 + 142 := by rw [x2_8, hs_7]
  have hg_8 : gt h_8 b = cO 5 [vR p1, vR p2, vN, vR (h.1 + 0), vR (h.1 + 1), vI 0, vR (h.1 + 2)] := x3_8
  have ha0_8 : gt h_8 (h.1 + 0) = cA 0 7 (fun _ => 0) := (x4_8 _ (by omega)).trans ha0_7
  have ha1_8 : gt h_8 (h.1 + 1) = cA 0 7 (fun _ => 0) := (x4_8 _ (by omega)).trans ha1_7
  have ha2_8 : gt h_8 (h.1 + 2) = cA 0 128 (fun _ => 0) := (x4_8 _ (by omega)).trans ha2_7
  have hf_8 : ∀ B, B ≠ b → (B < h.1 ∨ h.1 + 3 ≤ B) → gt h_8 B = gt h B := fun B q1 q2 => (x4_8 B q1).trans (hf_7 B q1 q2)
  refine xh_pu (ls' := [vR b, vR p1, vR p2, vR p3]) (st' := [vR b]) (dg dc40 20 rfl) rfl rfl ?_
  refine xh_pu (ls' := [vR b, vR p1, vR p2, vR p3]) (st' := [vR p3, vR b]) (dg dc40 21 rfl) rfl rfl ?_
  refine xh_put (dg dc40 22 rfl) rfl (by omega) hg_8 rfl rfl (fun h_9 e_9 => ?_)
  obtain ⟨x1_9, x2_9, x3_9, x4_9⟩ := e_9
  have hn_9 : h_9.1 = h.1 + 3 := by rw [x1_9, hn_8]
  have hs_9 : h_9.2.1 = h.2.1 + 142 := by rw [x2_9, hs_8]
  have hg_9 : gt h_9 b = cO 5 [vR p1, vR p2, vR p3, vR (h.1 + 0), vR (h.1 + 1), vI 0, vR (h.1 + 2)] := x3_9
  have ha0_9 : gt h_9 (h.1 + 0) = cA 0 7 (fun _ => 0) := (x4_9 _ (by omega)).trans ha0_8
  have ha1_9 : gt h_9 (h.1 + 1) = cA 0 7 (fun _ => 0) := (x4_9 _ (by omega)).trans ha1_8
  have ha2_9 : gt h_9 (h.1 + 2) = cA 0 128 (fun _ => 0) := (x4_9 _ (by omega)).trans ha2_8
  have hf_9 : ∀ B, B ≠ b → (B < h.1 ∨ h.1 + 3 ≤ B) → gt h_9 B = gt h B := fun B q1 q2 => (x4_9 B q1).trans (hf_8 B q1 q2)
  refine xh_pu (ls' := [vR b, vR p1, vR p2, vR p3]) (st' := [vR b]) (dg dc40 23 rfl) rfl rfl ?_
  refine xh_ldc (dg dc40 24 rfl) rfl ?_
  refine xh_put (dg dc40 25 rfl) rfl (by omega) hg_9 rfl rfl (fun h_10 e_10 => ?_)
  obtain ⟨x1_10, x2_10, x3_10, x4_10⟩ := e_10
  have hn_10 : h_10.1 = h.1 + 3 := by rw [x1_10, hn_9]
  have hs_10 : h_10.2.1 = h.2.1 + 142 := by rw [x2_10, hs_9]
  have hg_10 : gt h_10 b = cO 5 [vR p1, vR p2, vR p3, vR (h.1 + 0), vR (h.1 + 1), vI 1000000000, vR (h.1 + 2)] := x3_10
  have ha0_10 : gt h_10 (h.1 + 0) = cA 0 7 (fun _ => 0) := (x4_10 _ (by omega)).trans ha0_9
  have ha1_10 : gt h_10 (h.1 + 1) = cA 0 7 (fun _ => 0) := (x4_10 _ (by omega)).trans ha1_9
  have ha2_10 : gt h_10 (h.1 + 2) = cA 0 128 (fun _ => 0) := (x4_10 _ (by omega)).trans ha2_9
  have hf_10 : ∀ B, B ≠ b → (B < h.1 ∨ h.1 + 3 ≤ B) → gt h_10 B = gt h B := fun B q1 q2 => (x4_10 B q1).trans (hf_9 B q1 q2)
  exact xh_vre (dg dc40 26 rfl) rfl ⟨rfl, hn_10, hs_10, hg_10, ha0_10, ha1_10, ha2_10, hf_10⟩
def il51 : List (Nat × Instr × Nat) := [(0, .aload_n 0, 1), (1, .invokespecial 5, 3), (4, .aload_n 0, 1), (5, .iconst 0, 1), (6, .putfield 11, 3), (9, .aload_n 0, 1), (10, .iconst 0, 1), (11, .putfield 15, 3), (14, .aload_n 0, 1), (15, .iconst (-1), 1), (16, .putfield 19, 3), (19, .aload_n 0, 1), (20, .sipush 6000, 3), (23, .newarray .long, 2), (25, .putfield 22, 3), (28, .aload_n 0, 1), (29, .sipush 16384, 3), (32, .newarray .int, 2), (34, .putfield 26, 3), (37, .aload_n 0, 1), (38, .bipush 17, 2), (40, .newarray .int, 2), (42, .putfield 30, 3), (45, .aload_n 0, 1), (46, .bipush 10, 2), (48, .newarray .int, 2), (50, .putfield 33, 3), (53, .aload_n 0, 1), (54, .aload_n 1, 1), (55, .putfield 36, 3), (58, .aload_n 0, 1), (59, .aload_n 2, 1), (60, .putfield 40, 3), (63, .aload_n 0, 1), (64, .aload_n 3, 1), (65, .putfield 44, 3), (68, .return_, 1)]
theorem dc51 : dcs (mC 51) il51 := dc_of (by decide +kernel)
set_option maxRecDepth 4000 in
theorem ctor51 {d : Nat} {h : AH} {b p1 p2 p3 : Nat} (hb : b < h.1) (hg : gt h b = cO 6 [vN, vN, vN, vI 0, vI 0, vI 0, vN, vN, vN, vN, vI 0, vI 0, vI 0, vI 0]) : XH d 51 0 (ent 51 [vR b, vR p1, vR p2, vR p3]) [] h (fun r h1 => r = rV ∧ h1.1 = h.1 + 4 ∧ h1.2.1 = h.2.1 + 22411 ∧ gt h1 b = cO 6 [vR p1, vR p2, vR p3, vI 0, vI 0, vI (-1), vR (h.1 + 0), vR (h.1 + 1), vR (h.1 + 2), vR (h.1 + 3), vI 0, vI 0, vI 0, vI 0] ∧ gt h1 (h.1 + 0) = cA 1 6000 (fun _ => 0) ∧ gt h1 (h.1 + 1) = cA 0 16384 (fun _ => 0) ∧ gt h1 (h.1 + 2) = cA 0 17 (fun _ => 0) ∧ gt h1 (h.1 + 3) = cA 0 10 (fun _ => 0) ∧ ∀ B, B ≠ b → (B < h.1 ∨ h.1 + 4 ≤ B) → gt h1 B = gt h B) := by
  show XH d 51 0 [vR b, vR p1, vR p2, vR p3] [] h _
  have hn_0 : h.1 = h.1 + 0 := rfl
  have hs_0 : h.2.1 = h.2.1 + 0 := rfl
  have hg_0 : gt h b = cO 6 [vN, vN, vN, vI 0, vI 0, vI 0, vN, vN, vN, vN, vI 0, vI 0, vI 0, vI 0] := hg
  have hf_0 : ∀ B, B ≠ b → (B < h.1 ∨ h.1 + 4 ≤ B) → gt h B = gt h B := fun _ _ _ => rfl
  refine xh_pu (ls' := [vR b, vR p1, vR p2, vR p3]) (st' := [vR b]) (dg dc51 0 rfl) rfl rfl ?_
  refine xh_oin (dg dc51 1 rfl) rfl (by omega) rfl ?_
  refine xh_pu (ls' := [vR b, vR p1, vR p2, vR p3]) (st' := [vR b]) (dg dc51 2 rfl) rfl rfl ?_
  refine xh_pu (ls' := [vR b, vR p1, vR p2, vR p3]) (st' := [vI 0, vR b]) (dg dc51 3 rfl) rfl rfl ?_
  refine xh_put (dg dc51 4 rfl) rfl (by omega) hg_0 rfl rfl (fun h_1 e_1 => ?_)
  obtain ⟨x1_1, x2_1, x3_1, x4_1⟩ := e_1
  have hn_1 : h_1.1 = h.1 + 0 := by rw [x1_1, hn_0]
  have hs_1 : h_1.2.1 = h.2.1 + 0 := by rw [x2_1, hs_0]
  have hg_1 : gt h_1 b = cO 6 [vN, vN, vN, vI 0, vI 0, vI 0, vN, vN, vN, vN, vI 0, vI 0, vI 0, vI 0] := x3_1
  have hf_1 : ∀ B, B ≠ b → (B < h.1 ∨ h.1 + 4 ≤ B) → gt h_1 B = gt h B := fun B q1 q2 => (x4_1 B q1).trans (hf_0 B q1 q2)
  refine xh_pu (ls' := [vR b, vR p1, vR p2, vR p3]) (st' := [vR b]) (dg dc51 5 rfl) rfl rfl ?_
  refine xh_pu (ls' := [vR b, vR p1, vR p2, vR p3]) (st' := [vI 0, vR b]) (dg dc51 6 rfl) rfl rfl ?_
  refine xh_put (dg dc51 7 rfl) rfl (by omega) hg_1 rfl rfl (fun h_2 e_2 => ?_)
  obtain ⟨x1_2, x2_2, x3_2, x4_2⟩ := e_2
  have hn_2 : h_2.1 = h.1 + 0 := by rw [x1_2, hn_1]
  have hs_2 : h_2.2.1 = h.2.1 + 0 := by rw [x2_2, hs_1]
  have hg_2 : gt h_2 b = cO 6 [vN, vN, vN, vI 0, vI 0, vI 0, vN, vN, vN, vN, vI 0, vI 0, vI 0, vI 0] := x3_2
  have hf_2 : ∀ B, B ≠ b → (B < h.1 ∨ h.1 + 4 ≤ B) → gt h_2 B = gt h B := fun B q1 q2 => (x4_2 B q1).trans (hf_1 B q1 q2)
  refine xh_pu (ls' := [vR b, vR p1, vR p2, vR p3]) (st' := [vR b]) (dg dc51 8 rfl) rfl rfl ?_
  refine xh_pu (ls' := [vR b, vR p1, vR p2, vR p3]) (st' := [vI (-1), vR b]) (dg dc51 9 rfl) rfl rfl ?_
  refine xh_put (dg dc51 10 rfl) rfl (by omega) hg_2 rfl rfl (fun h_3 e_3 => ?_)
  obtain ⟨x1_3, x2_3, x3_3, x4_3⟩ := e_3
  have hn_3 : h_3.1 = h.1 + 0 := by rw [x1_3, hn_2]
  have hs_3 : h_3.2.1 = h.2.1 + 0 := by rw [x2_3, hs_2]
  have hg_3 : gt h_3 b = cO 6 [vN, vN, vN, vI 0, vI 0, vI (-1), vN, vN, vN, vN, vI 0, vI 0, vI 0, vI 0] := x3_3
  have hf_3 : ∀ B, B ≠ b → (B < h.1 ∨ h.1 + 4 ≤ B) → gt h_3 B = gt h B := fun B q1 q2 => (x4_3 B q1).trans (hf_2 B q1 q2)
  refine xh_pu (ls' := [vR b, vR p1, vR p2, vR p3]) (st' := [vR b]) (dg dc51 11 rfl) rfl rfl ?_
  refine xh_pu (ls' := [vR b, vR p1, vR p2, vR p3]) (st' := [vI 6000, vR b]) (dg dc51 12 rfl) rfl rfl ?_
  refine xh_newa (n9 := 6000) (dg dc51 13 rfl) rfl rfl (fun h_4 e_4 => ?_)
  obtain ⟨x1_4, x2_4, x3_4, x4_4⟩ := e_4
  have hn_4 : h_4.1 = h.1 + 1 := by rw [x1_4, hn_3]
  have hs_4 : h_4.2.1 = h.2.1 + 6000 := by rw [x2_4, hs_3]
  have hg_4 : gt h_4 b = cO 6 [vN, vN, vN, vI 0, vI 0, vI (-1), vN, vN, vN, vN, vI 0, vI 0, vI 0, vI 0] := (x4_4 b (by omega)).trans hg_3
  have ha0_4 : gt h_4 (h.1 + 0) = cA 1 6000 (fun _ => 0) := by rw [← hn_3]; exact x3_4
  have hf_4 : ∀ B, B ≠ b → (B < h.1 ∨ h.1 + 4 ≤ B) → gt h_4 B = gt h B := fun B q1 q2 => (x4_4 B (by omega)).trans (hf_3 B q1 q2)
  rw [show h_3.1 = h.1 + 0 from hn_3]
  refine xh_put (dg dc51 14 rfl) rfl (by omega) hg_4 rfl rfl (fun h_5 e_5 => ?_)
  obtain ⟨x1_5, x2_5, x3_5, x4_5⟩ := e_5
  have hn_5 : h_5.1 = h.1 + 1 := by rw [x1_5, hn_4]
  have hs_5 : h_5.2.1 = h.2.1 + 6000 := by rw [x2_5, hs_4]
  have hg_5 : gt h_5 b = cO 6 [vN, vN, vN, vI 0, vI 0, vI (-1), vR (h.1 + 0), vN, vN, vN, vI 0, vI 0, vI 0, vI 0] := x3_5
  have ha0_5 : gt h_5 (h.1 + 0) = cA 1 6000 (fun _ => 0) := (x4_5 _ (by omega)).trans ha0_4
  have hf_5 : ∀ B, B ≠ b → (B < h.1 ∨ h.1 + 4 ≤ B) → gt h_5 B = gt h B := fun B q1 q2 => (x4_5 B q1).trans (hf_4 B q1 q2)
  refine xh_pu (ls' := [vR b, vR p1, vR p2, vR p3]) (st' := [vR b]) (dg dc51 15 rfl) rfl rfl ?_
  refine xh_pu (ls' := [vR b, vR p1, vR p2, vR p3]) (st' := [vI 16384, vR b]) (dg dc51 16 rfl) rfl rfl ?_
  refine xh_newa (n9 := 16384) (dg dc51 17 rfl) rfl rfl (fun h_6 e_6 => ?_)
  obtain ⟨x1_6, x2_6, x3_6, x4_6⟩ := e_6
  have hn_6 : h_6.1 = h.1 + 2 := by rw [x1_6, hn_5]
  have hs_6 : h_6.2.1 = h.2.1 + 22384 := by rw [x2_6, hs_5]
  have hg_6 : gt h_6 b = cO 6 [vN, vN, vN, vI 0, vI 0, vI (-1), vR (h.1 + 0), vN, vN, vN, vI 0, vI 0, vI 0, vI 0] := (x4_6 b (by omega)).trans hg_5
  have ha0_6 : gt h_6 (h.1 + 0) = cA 1 6000 (fun _ => 0) := (x4_6 _ (by omega)).trans ha0_5
  have ha1_6 : gt h_6 (h.1 + 1) = cA 0 16384 (fun _ => 0) := by rw [← hn_5]; exact x3_6
  have hf_6 : ∀ B, B ≠ b → (B < h.1 ∨ h.1 + 4 ≤ B) → gt h_6 B = gt h B := fun B q1 q2 => (x4_6 B (by omega)).trans (hf_5 B q1 q2)
  rw [show h_5.1 = h.1 + 1 from hn_5]
  refine xh_put (dg dc51 18 rfl) rfl (by omega) hg_6 rfl rfl (fun h_7 e_7 => ?_)
  obtain ⟨x1_7, x2_7, x3_7, x4_7⟩ := e_7
  have hn_7 : h_7.1 = h.1 + 2 := by rw [x1_7, hn_6]
  have hs_7 : h_7.2.1 = h.2.1 + 22384 := by rw [x2_7, hs_6]
  have hg_7 : gt h_7 b = cO 6 [vN, vN, vN, vI 0, vI 0, vI (-1), vR (h.1 + 0), vR (h.1 + 1), vN, vN, vI 0, vI 0, vI 0, vI 0] := x3_7
  have ha0_7 : gt h_7 (h.1 + 0) = cA 1 6000 (fun _ => 0) := (x4_7 _ (by omega)).trans ha0_6
  have ha1_7 : gt h_7 (h.1 + 1) = cA 0 16384 (fun _ => 0) := (x4_7 _ (by omega)).trans ha1_6
  have hf_7 : ∀ B, B ≠ b → (B < h.1 ∨ h.1 + 4 ≤ B) → gt h_7 B = gt h B := fun B q1 q2 => (x4_7 B q1).trans (hf_6 B q1 q2)
  refine xh_pu (ls' := [vR b, vR p1, vR p2, vR p3]) (st' := [vR b]) (dg dc51 19 rfl) rfl rfl ?_
  refine xh_pu (ls' := [vR b, vR p1, vR p2, vR p3]) (st' := [vI 17, vR b]) (dg dc51 20 rfl) rfl rfl ?_
  refine xh_newa (n9 := 17) (dg dc51 21 rfl) rfl rfl (fun h_8 e_8 => ?_)
  obtain ⟨x1_8, x2_8, x3_8, x4_8⟩ := e_8
  have hn_8 : h_8.1 = h.1 + 3 := by rw [x1_8, hn_7]
  have hs_8 : h_8.2.1 = h.2.1 + 22401 := by rw [x2_8, hs_7]
  have hg_8 : gt h_8 b = cO 6 [vN, vN, vN, vI 0, vI 0, vI (-1), vR (h.1 + 0), vR (h.1 + 1), vN, vN, vI 0, vI 0, vI 0, vI 0] := (x4_8 b (by omega)).trans hg_7
  have ha0_8 : gt h_8 (h.1 + 0) = cA 1 6000 (fun _ => 0) := (x4_8 _ (by omega)).trans ha0_7
  have ha1_8 : gt h_8 (h.1 + 1) = cA 0 16384 (fun _ => 0) := (x4_8 _ (by omega)).trans ha1_7
  have ha2_8 : gt h_8 (h.1 + 2) = cA 0 17 (fun _ => 0) := by rw [← hn_7]; exact x3_8
  have hf_8 : ∀ B, B ≠ b → (B < h.1 ∨ h.1 + 4 ≤ B) → gt h_8 B = gt h B := fun B q1 q2 => (x4_8 B (by omega)).trans (hf_7 B q1 q2)
  rw [show h_7.1 = h.1 + 2 from hn_7]
  refine xh_put (dg dc51 22 rfl) rfl (by omega) hg_8 rfl rfl (fun h_9 e_9 => ?_)
  obtain ⟨x1_9, x2_9, x3_9, x4_9⟩ := e_9
  have hn_9 : h_9.1 = h.1 + 3 := by rw [x1_9, hn_8]
  have hs_9 : h_9.2.1 = h.2.1 + 22401 := by rw [x2_9, hs_8]
  have hg_9 : gt h_9 b = cO 6 [vN, vN, vN, vI 0, vI 0, vI (-1), vR (h.1 + 0), vR (h.1 + 1), vR (h.1 + 2), vN, vI 0, vI 0, vI 0, vI 0] := x3_9
  have ha0_9 : gt h_9 (h.1 + 0) = cA 1 6000 (fun _ => 0) := (x4_9 _ (by omega)).trans ha0_8
  have ha1_9 : gt h_9 (h.1 + 1) = cA 0 16384 (fun _ => 0) := (x4_9 _ (by omega)).trans ha1_8
  have ha2_9 : gt h_9 (h.1 + 2) = cA 0 17 (fun _ => 0) := (x4_9 _ (by omega)).trans ha2_8
  have hf_9 : ∀ B, B ≠ b → (B < h.1 ∨ h.1 + 4 ≤ B) → gt h_9 B = gt h B := fun B q1 q2 => (x4_9 B q1).trans (hf_8 B q1 q2)
  refine xh_pu (ls' := [vR b, vR p1, vR p2, vR p3]) (st' := [vR b]) (dg dc51 23 rfl) rfl rfl ?_
  refine xh_pu (ls' := [vR b, vR p1, vR p2, vR p3]) (st' := [vI 10, vR b]) (dg dc51 24 rfl) rfl rfl ?_
  refine xh_newa (n9 := 10) (dg dc51 25 rfl) rfl rfl (fun h_10 e_10 => ?_)
  obtain ⟨x1_10, x2_10, x3_10, x4_10⟩ := e_10
  have hn_10 : h_10.1 = h.1 + 4 := by rw [x1_10, hn_9]
  have hs_10 : h_10.2.1 = h.2.1 + 22411 := by rw [x2_10, hs_9]
  have hg_10 : gt h_10 b = cO 6 [vN, vN, vN, vI 0, vI 0, vI (-1), vR (h.1 + 0), vR (h.1 + 1), vR (h.1 + 2), vN, vI 0, vI 0, vI 0, vI 0] := (x4_10 b (by omega)).trans hg_9
  have ha0_10 : gt h_10 (h.1 + 0) = cA 1 6000 (fun _ => 0) := (x4_10 _ (by omega)).trans ha0_9
  have ha1_10 : gt h_10 (h.1 + 1) = cA 0 16384 (fun _ => 0) := (x4_10 _ (by omega)).trans ha1_9
  have ha2_10 : gt h_10 (h.1 + 2) = cA 0 17 (fun _ => 0) := (x4_10 _ (by omega)).trans ha2_9
  have ha3_10 : gt h_10 (h.1 + 3) = cA 0 10 (fun _ => 0) := by rw [← hn_9]; exact x3_10
  have hf_10 : ∀ B, B ≠ b → (B < h.1 ∨ h.1 + 4 ≤ B) → gt h_10 B = gt h B := fun B q1 q2 => (x4_10 B (by omega)).trans (hf_9 B q1 q2)
  rw [show h_9.1 = h.1 + 3 from hn_9]
  refine xh_put (dg dc51 26 rfl) rfl (by omega) hg_10 rfl rfl (fun h_11 e_11 => ?_)
  obtain ⟨x1_11, x2_11, x3_11, x4_11⟩ := e_11
  have hn_11 : h_11.1 = h.1 + 4 := by rw [x1_11, hn_10]
  have hs_11 : h_11.2.1 = h.2.1 + 22411 := by rw [x2_11, hs_10]
  have hg_11 : gt h_11 b = cO 6 [vN, vN, vN, vI 0, vI 0, vI (-1), vR (h.1 + 0), vR (h.1 + 1), vR (h.1 + 2), vR (h.1 + 3), vI 0, vI 0, vI 0, vI 0] := x3_11
  have ha0_11 : gt h_11 (h.1 + 0) = cA 1 6000 (fun _ => 0) := (x4_11 _ (by omega)).trans ha0_10
  have ha1_11 : gt h_11 (h.1 + 1) = cA 0 16384 (fun _ => 0) := (x4_11 _ (by omega)).trans ha1_10
  have ha2_11 : gt h_11 (h.1 + 2) = cA 0 17 (fun _ => 0) := (x4_11 _ (by omega)).trans ha2_10
  have ha3_11 : gt h_11 (h.1 + 3) = cA 0 10 (fun _ => 0) := (x4_11 _ (by omega)).trans ha3_10
  have hf_11 : ∀ B, B ≠ b → (B < h.1 ∨ h.1 + 4 ≤ B) → gt h_11 B = gt h B := fun B q1 q2 => (x4_11 B q1).trans (hf_10 B q1 q2)
  refine xh_pu (ls' := [vR b, vR p1, vR p2, vR p3]) (st' := [vR b]) (dg dc51 27 rfl) rfl rfl ?_
  refine xh_pu (ls' := [vR b, vR p1, vR p2, vR p3]) (st' := [vR p1, vR b]) (dg dc51 28 rfl) rfl rfl ?_
  refine xh_put (dg dc51 29 rfl) rfl (by omega) hg_11 rfl rfl (fun h_12 e_12 => ?_)
  obtain ⟨x1_12, x2_12, x3_12, x4_12⟩ := e_12
  have hn_12 : h_12.1 = h.1 + 4 := by rw [x1_12, hn_11]
  have hs_12 : h_12.2.1 = h.2.1 + 22411 := by rw [x2_12, hs_11]
  have hg_12 : gt h_12 b = cO 6 [vR p1, vN, vN, vI 0, vI 0, vI (-1), vR (h.1 + 0), vR (h.1 + 1), vR (h.1 + 2), vR (h.1 + 3), vI 0, vI 0, vI 0, vI 0] := x3_12
  have ha0_12 : gt h_12 (h.1 + 0) = cA 1 6000 (fun _ => 0) := (x4_12 _ (by omega)).trans ha0_11
  have ha1_12 : gt h_12 (h.1 + 1) = cA 0 16384 (fun _ => 0) := (x4_12 _ (by omega)).trans ha1_11
  have ha2_12 : gt h_12 (h.1 + 2) = cA 0 17 (fun _ => 0) := (x4_12 _ (by omega)).trans ha2_11
  have ha3_12 : gt h_12 (h.1 + 3) = cA 0 10 (fun _ => 0) := (x4_12 _ (by omega)).trans ha3_11
  have hf_12 : ∀ B, B ≠ b → (B < h.1 ∨ h.1 + 4 ≤ B) → gt h_12 B = gt h B := fun B q1 q2 => (x4_12 B q1).trans (hf_11 B q1 q2)
  refine xh_pu (ls' := [vR b, vR p1, vR p2, vR p3]) (st' := [vR b]) (dg dc51 30 rfl) rfl rfl ?_
  refine xh_pu (ls' := [vR b, vR p1, vR p2, vR p3]) (st' := [vR p2, vR b]) (dg dc51 31 rfl) rfl rfl ?_
  refine xh_put (dg dc51 32 rfl) rfl (by omega) hg_12 rfl rfl (fun h_13 e_13 => ?_)
  obtain ⟨x1_13, x2_13, x3_13, x4_13⟩ := e_13
  have hn_13 : h_13.1 = h.1 + 4 := by rw [x1_13, hn_12]
  have hs_13 : h_13.2.1 = h.2.1 + 22411 := by rw [x2_13, hs_12]
  have hg_13 : gt h_13 b = cO 6 [vR p1, vR p2, vN, vI 0, vI 0, vI (-1), vR (h.1 + 0), vR (h.1 + 1), vR (h.1 + 2), vR (h.1 + 3), vI 0, vI 0, vI 0, vI 0] := x3_13
  have ha0_13 : gt h_13 (h.1 + 0) = cA 1 6000 (fun _ => 0) := (x4_13 _ (by omega)).trans ha0_12
  have ha1_13 : gt h_13 (h.1 + 1) = cA 0 16384 (fun _ => 0) := (x4_13 _ (by omega)).trans ha1_12
  have ha2_13 : gt h_13 (h.1 + 2) = cA 0 17 (fun _ => 0) := (x4_13 _ (by omega)).trans ha2_12
  have ha3_13 : gt h_13 (h.1 + 3) = cA 0 10 (fun _ => 0) := (x4_13 _ (by omega)).trans ha3_12
  have hf_13 : ∀ B, B ≠ b → (B < h.1 ∨ h.1 + 4 ≤ B) → gt h_13 B = gt h B := fun B q1 q2 => (x4_13 B q1).trans (hf_12 B q1 q2)
  refine xh_pu (ls' := [vR b, vR p1, vR p2, vR p3]) (st' := [vR b]) (dg dc51 33 rfl) rfl rfl ?_
  refine xh_pu (ls' := [vR b, vR p1, vR p2, vR p3]) (st' := [vR p3, vR b]) (dg dc51 34 rfl) rfl rfl ?_
  refine xh_put (dg dc51 35 rfl) rfl (by omega) hg_13 rfl rfl (fun h_14 e_14 => ?_)
  obtain ⟨x1_14, x2_14, x3_14, x4_14⟩ := e_14
  have hn_14 : h_14.1 = h.1 + 4 := by rw [x1_14, hn_13]
  have hs_14 : h_14.2.1 = h.2.1 + 22411 := by rw [x2_14, hs_13]
  have hg_14 : gt h_14 b = cO 6 [vR p1, vR p2, vR p3, vI 0, vI 0, vI (-1), vR (h.1 + 0), vR (h.1 + 1), vR (h.1 + 2), vR (h.1 + 3), vI 0, vI 0, vI 0, vI 0] := x3_14
  have ha0_14 : gt h_14 (h.1 + 0) = cA 1 6000 (fun _ => 0) := (x4_14 _ (by omega)).trans ha0_13
  have ha1_14 : gt h_14 (h.1 + 1) = cA 0 16384 (fun _ => 0) := (x4_14 _ (by omega)).trans ha1_13
  have ha2_14 : gt h_14 (h.1 + 2) = cA 0 17 (fun _ => 0) := (x4_14 _ (by omega)).trans ha2_13
  have ha3_14 : gt h_14 (h.1 + 3) = cA 0 10 (fun _ => 0) := (x4_14 _ (by omega)).trans ha3_13
  have hf_14 : ∀ B, B ≠ b → (B < h.1 ∨ h.1 + 4 ≤ B) → gt h_14 B = gt h B := fun B q1 q2 => (x4_14 B q1).trans (hf_13 B q1 q2)
  exact xh_vre (dg dc51 36 rfl) rfl ⟨rfl, hn_14, hs_14, hg_14, ha0_14, ha1_14, ha2_14, ha3_14, hf_14⟩
def il165 : List (Nat × Instr × Nat) := [(0, .aload_n 0, 1), (1, .invokespecial 7, 3), (4, .aload_n 0, 1), (5, .sipush 1964, 3), (8, .newarray .int, 2), (10, .putfield 13, 3), (13, .aload_n 0, 1), (14, .sipush 1115, 3), (17, .newarray .int, 2), (19, .putfield 17, 3), (22, .aload_n 0, 1), (23, .sipush 1115, 3), (26, .newarray .int, 2), (28, .putfield 20, 3), (31, .aload_n 0, 1), (32, .sipush 3192, 3), (35, .newarray .int, 2), (37, .putfield 23, 3), (40, .aload_n 0, 1), (41, .sipush 400, 3), (44, .newarray .byte, 2), (46, .putfield 26, 3), (49, .aload_n 0, 1), (50, .iconst (-1), 1), (51, .putfield 30, 3), (54, .aload_n 0, 1), (55, .iconst 5, 1), (56, .newarray .int, 2), (58, .putfield 33, 3), (61, .aload_n 0, 1), (62, .sipush 400, 3), (65, .newarray .int, 2), (67, .putfield 36, 3), (70, .aload_n 0, 1), (71, .sipush 6000, 3), (74, .newarray .long, 2), (76, .putfield 39, 3), (79, .aload_n 0, 1), (80, .sipush 16384, 3), (83, .newarray .int, 2), (85, .putfield 43, 3), (88, .aload_n 0, 1), (89, .bipush 10, 2), (91, .newarray .int, 2), (93, .putfield 46, 3), (96, .aload_n 0, 1), (97, .bipush 10, 2), (99, .newarray .int, 2), (101, .putfield 49, 3), (104, .aload_n 0, 1), (105, .bipush 10, 2), (107, .newarray .boolean, 2), (109, .putfield 52, 3), (112, .aload_n 0, 1), (113, .bipush 7, 2), (115, .newarray .int, 2), (117, .putfield 56, 3), (120, .aload_n 0, 1), (121, .bipush 7, 2), (123, .newarray .int, 2), (125, .putfield 59, 3), (128, .aload_n 0, 1), (129, .sipush 1024, 3), (132, .newarray .int, 2), (134, .putfield 62, 3), (137, .aload_n 0, 1), (138, .getfield 13, 3), (141, .bipush 8, 2), (143, .iconst (-1), 1), (144, .iastore, 1), (145, .return_, 1)]
theorem dc165 : dcs (mC 165) il165 := dc_of (by decide +kernel)
set_option maxRecDepth 4000 in
theorem ctor165 {d : Nat} {h : AH} {b : Nat} (hb : b < h.1) (hg : gt h b = cO 12 [vI 0, vN, vN, vN, vN, vI 0, vI 0, vN, vI 0, vI 0, vI 0, vI 0, vI 0, vI 0, vN, vI 0, vN, vI 0, vI 0, vI 0, vI 0, vI 0, vI 0, vN, vN, vI 0, vN, vN, vN, vN, vN, vN]) : XH d 165 0 (ent 165 [vR b]) [] h (fun r h1 => r = rV ∧ h1.1 = h.1 + 15 ∧ h1.2.1 = h.2.1 + 31643 ∧ gt h1 b = cO 12 [vI 0, vR (h.1 + 0), vR (h.1 + 1), vR (h.1 + 2), vR (h.1 + 3), vI 0, vI 0, vR (h.1 + 4), vI 0, vI 0, vI 0, vI 0, vI 0, vI (-1), vR (h.1 + 5), vI 0, vR (h.1 + 6), vI 0, vI 0, vI 0, vI 0, vI 0, vI 0, vR (h.1 + 7), vR (h.1 + 8), vI 0, vR (h.1 + 9), vR (h.1 + 10), vR (h.1 + 11), vR (h.1 + 12), vR (h.1 + 13), vR (h.1 + 14)] ∧ gt h1 (h.1 + 0) = cA 0 1964 (up (fun _ => 0) (8 : Int).toNat ((-1))) ∧ gt h1 (h.1 + 1) = cA 0 1115 (fun _ => 0) ∧ gt h1 (h.1 + 2) = cA 0 1115 (fun _ => 0) ∧ gt h1 (h.1 + 3) = cA 0 3192 (fun _ => 0) ∧ gt h1 (h.1 + 4) = cA 2 400 (fun _ => 0) ∧ gt h1 (h.1 + 5) = cA 0 5 (fun _ => 0) ∧ gt h1 (h.1 + 6) = cA 0 400 (fun _ => 0) ∧ gt h1 (h.1 + 7) = cA 1 6000 (fun _ => 0) ∧ gt h1 (h.1 + 8) = cA 0 16384 (fun _ => 0) ∧ gt h1 (h.1 + 9) = cA 0 10 (fun _ => 0) ∧ gt h1 (h.1 + 10) = cA 0 10 (fun _ => 0) ∧ gt h1 (h.1 + 11) = cA 3 10 (fun _ => 0) ∧ gt h1 (h.1 + 12) = cA 0 7 (fun _ => 0) ∧ gt h1 (h.1 + 13) = cA 0 7 (fun _ => 0) ∧ gt h1 (h.1 + 14) = cA 0 1024 (fun _ => 0) ∧ ∀ B, B ≠ b → (B < h.1 ∨ h.1 + 15 ≤ B) → gt h1 B = gt h B) := by
  show XH d 165 0 [vR b] [] h _
  have hn_0 : h.1 = h.1 + 0 := rfl
  have hs_0 : h.2.1 = h.2.1 + 0 := rfl
  have hg_0 : gt h b = cO 12 [vI 0, vN, vN, vN, vN, vI 0, vI 0, vN, vI 0, vI 0, vI 0, vI 0, vI 0, vI 0, vN, vI 0, vN, vI 0, vI 0, vI 0, vI 0, vI 0, vI 0, vN, vN, vI 0, vN, vN, vN, vN, vN, vN] := hg
  have hf_0 : ∀ B, B ≠ b → (B < h.1 ∨ h.1 + 15 ≤ B) → gt h B = gt h B := fun _ _ _ => rfl
  refine xh_pu (ls' := [vR b]) (st' := [vR b]) (dg dc165 0 rfl) rfl rfl ?_
  refine xh_oin (dg dc165 1 rfl) rfl (by omega) rfl ?_
  refine xh_pu (ls' := [vR b]) (st' := [vR b]) (dg dc165 2 rfl) rfl rfl ?_
  refine xh_pu (ls' := [vR b]) (st' := [vI 1964, vR b]) (dg dc165 3 rfl) rfl rfl ?_
  refine xh_newa (n9 := 1964) (dg dc165 4 rfl) rfl rfl (fun h_1 e_1 => ?_)
  obtain ⟨x1_1, x2_1, x3_1, x4_1⟩ := e_1
  have hn_1 : h_1.1 = h.1 + 1 := by rw [x1_1, hn_0]
  have hs_1 : h_1.2.1 = h.2.1 + 1964 := by rw [x2_1, hs_0]
  have hg_1 : gt h_1 b = cO 12 [vI 0, vN, vN, vN, vN, vI 0, vI 0, vN, vI 0, vI 0, vI 0, vI 0, vI 0, vI 0, vN, vI 0, vN, vI 0, vI 0, vI 0, vI 0, vI 0, vI 0, vN, vN, vI 0, vN, vN, vN, vN, vN, vN] := (x4_1 b (by omega)).trans hg_0
  have ha0_1 : gt h_1 (h.1 + 0) = cA 0 1964 (fun _ => 0) := by rw [← hn_0]; exact x3_1
  have hf_1 : ∀ B, B ≠ b → (B < h.1 ∨ h.1 + 15 ≤ B) → gt h_1 B = gt h B := fun B q1 q2 => (x4_1 B (by omega)).trans (hf_0 B q1 q2)
  show XH _ 165 _ _ (vR (h.1 + 0) :: _) _ _
  refine xh_put (dg dc165 5 rfl) rfl (by omega) hg_1 rfl rfl (fun h_2 e_2 => ?_)
  obtain ⟨x1_2, x2_2, x3_2, x4_2⟩ := e_2
  have hn_2 : h_2.1 = h.1 + 1 := by rw [x1_2, hn_1]
  have hs_2 : h_2.2.1 = h.2.1 + 1964 := by rw [x2_2, hs_1]
  have hg_2 : gt h_2 b = cO 12 [vI 0, vR (h.1 + 0), vN, vN, vN, vI 0, vI 0, vN, vI 0, vI 0, vI 0, vI 0, vI 0, vI 0, vN, vI 0, vN, vI 0, vI 0, vI 0, vI 0, vI 0, vI 0, vN, vN, vI 0, vN, vN, vN, vN, vN, vN] := x3_2
  have ha0_2 : gt h_2 (h.1 + 0) = cA 0 1964 (fun _ => 0) := (x4_2 _ (by omega)).trans ha0_1
  have hf_2 : ∀ B, B ≠ b → (B < h.1 ∨ h.1 + 15 ≤ B) → gt h_2 B = gt h B := fun B q1 q2 => (x4_2 B q1).trans (hf_1 B q1 q2)
  refine xh_pu (ls' := [vR b]) (st' := [vR b]) (dg dc165 6 rfl) rfl rfl ?_
  refine xh_pu (ls' := [vR b]) (st' := [vI 1115, vR b]) (dg dc165 7 rfl) rfl rfl ?_
  refine xh_newa (n9 := 1115) (dg dc165 8 rfl) rfl rfl (fun h_3 e_3 => ?_)
  obtain ⟨x1_3, x2_3, x3_3, x4_3⟩ := e_3
  have hn_3 : h_3.1 = h.1 + 2 := by rw [x1_3, hn_2]
  have hs_3 : h_3.2.1 = h.2.1 + 3079 := by rw [x2_3, hs_2]
  have hg_3 : gt h_3 b = cO 12 [vI 0, vR (h.1 + 0), vN, vN, vN, vI 0, vI 0, vN, vI 0, vI 0, vI 0, vI 0, vI 0, vI 0, vN, vI 0, vN, vI 0, vI 0, vI 0, vI 0, vI 0, vI 0, vN, vN, vI 0, vN, vN, vN, vN, vN, vN] := (x4_3 b (by omega)).trans hg_2
  have ha0_3 : gt h_3 (h.1 + 0) = cA 0 1964 (fun _ => 0) := (x4_3 _ (by omega)).trans ha0_2
  have ha1_3 : gt h_3 (h.1 + 1) = cA 0 1115 (fun _ => 0) := by rw [← hn_2]; exact x3_3
  have hf_3 : ∀ B, B ≠ b → (B < h.1 ∨ h.1 + 15 ≤ B) → gt h_3 B = gt h B := fun B q1 q2 => (x4_3 B (by omega)).trans (hf_2 B q1 q2)
  rw [show h_2.1 = h.1 + 1 from hn_2]
  refine xh_put (dg dc165 9 rfl) rfl (by omega) hg_3 rfl rfl (fun h_4 e_4 => ?_)
  obtain ⟨x1_4, x2_4, x3_4, x4_4⟩ := e_4
  have hn_4 : h_4.1 = h.1 + 2 := by rw [x1_4, hn_3]
  have hs_4 : h_4.2.1 = h.2.1 + 3079 := by rw [x2_4, hs_3]
  have hg_4 : gt h_4 b = cO 12 [vI 0, vR (h.1 + 0), vR (h.1 + 1), vN, vN, vI 0, vI 0, vN, vI 0, vI 0, vI 0, vI 0, vI 0, vI 0, vN, vI 0, vN, vI 0, vI 0, vI 0, vI 0, vI 0, vI 0, vN, vN, vI 0, vN, vN, vN, vN, vN, vN] := x3_4
  have ha0_4 : gt h_4 (h.1 + 0) = cA 0 1964 (fun _ => 0) := (x4_4 _ (by omega)).trans ha0_3
  have ha1_4 : gt h_4 (h.1 + 1) = cA 0 1115 (fun _ => 0) := (x4_4 _ (by omega)).trans ha1_3
  have hf_4 : ∀ B, B ≠ b → (B < h.1 ∨ h.1 + 15 ≤ B) → gt h_4 B = gt h B := fun B q1 q2 => (x4_4 B q1).trans (hf_3 B q1 q2)
  refine xh_pu (ls' := [vR b]) (st' := [vR b]) (dg dc165 10 rfl) rfl rfl ?_
  refine xh_pu (ls' := [vR b]) (st' := [vI 1115, vR b]) (dg dc165 11 rfl) rfl rfl ?_
  refine xh_newa (n9 := 1115) (dg dc165 12 rfl) rfl rfl (fun h_5 e_5 => ?_)
  obtain ⟨x1_5, x2_5, x3_5, x4_5⟩ := e_5
  have hn_5 : h_5.1 = h.1 + 3 := by rw [x1_5, hn_4]
  have hs_5 : h_5.2.1 = h.2.1 + 4194 := by rw [x2_5, hs_4]
  have hg_5 : gt h_5 b = cO 12 [vI 0, vR (h.1 + 0), vR (h.1 + 1), vN, vN, vI 0, vI 0, vN, vI 0, vI 0, vI 0, vI 0, vI 0, vI 0, vN, vI 0, vN, vI 0, vI 0, vI 0, vI 0, vI 0, vI 0, vN, vN, vI 0, vN, vN, vN, vN, vN, vN] := (x4_5 b (by omega)).trans hg_4
  have ha0_5 : gt h_5 (h.1 + 0) = cA 0 1964 (fun _ => 0) := (x4_5 _ (by omega)).trans ha0_4
  have ha1_5 : gt h_5 (h.1 + 1) = cA 0 1115 (fun _ => 0) := (x4_5 _ (by omega)).trans ha1_4
  have ha2_5 : gt h_5 (h.1 + 2) = cA 0 1115 (fun _ => 0) := by rw [← hn_4]; exact x3_5
  have hf_5 : ∀ B, B ≠ b → (B < h.1 ∨ h.1 + 15 ≤ B) → gt h_5 B = gt h B := fun B q1 q2 => (x4_5 B (by omega)).trans (hf_4 B q1 q2)
  rw [show h_4.1 = h.1 + 2 from hn_4]
  refine xh_put (dg dc165 13 rfl) rfl (by omega) hg_5 rfl rfl (fun h_6 e_6 => ?_)
  obtain ⟨x1_6, x2_6, x3_6, x4_6⟩ := e_6
  have hn_6 : h_6.1 = h.1 + 3 := by rw [x1_6, hn_5]
  have hs_6 : h_6.2.1 = h.2.1 + 4194 := by rw [x2_6, hs_5]
  have hg_6 : gt h_6 b = cO 12 [vI 0, vR (h.1 + 0), vR (h.1 + 1), vR (h.1 + 2), vN, vI 0, vI 0, vN, vI 0, vI 0, vI 0, vI 0, vI 0, vI 0, vN, vI 0, vN, vI 0, vI 0, vI 0, vI 0, vI 0, vI 0, vN, vN, vI 0, vN, vN, vN, vN, vN, vN] := x3_6
  have ha0_6 : gt h_6 (h.1 + 0) = cA 0 1964 (fun _ => 0) := (x4_6 _ (by omega)).trans ha0_5
  have ha1_6 : gt h_6 (h.1 + 1) = cA 0 1115 (fun _ => 0) := (x4_6 _ (by omega)).trans ha1_5
  have ha2_6 : gt h_6 (h.1 + 2) = cA 0 1115 (fun _ => 0) := (x4_6 _ (by omega)).trans ha2_5
  have hf_6 : ∀ B, B ≠ b → (B < h.1 ∨ h.1 + 15 ≤ B) → gt h_6 B = gt h B := fun B q1 q2 => (x4_6 B q1).trans (hf_5 B q1 q2)
  refine xh_pu (ls' := [vR b]) (st' := [vR b]) (dg dc165 14 rfl) rfl rfl ?_
  refine xh_pu (ls' := [vR b]) (st' := [vI 3192, vR b]) (dg dc165 15 rfl) rfl rfl ?_
  refine xh_newa (n9 := 3192) (dg dc165 16 rfl) rfl rfl (fun h_7 e_7 => ?_)
  obtain ⟨x1_7, x2_7, x3_7, x4_7⟩ := e_7
  have hn_7 : h_7.1 = h.1 + 4 := by rw [x1_7, hn_6]
  have hs_7 : h_7.2.1 = h.2.1 + 7386 := by rw [x2_7, hs_6]
  have hg_7 : gt h_7 b = cO 12 [vI 0, vR (h.1 + 0), vR (h.1 + 1), vR (h.1 + 2), vN, vI 0, vI 0, vN, vI 0, vI 0, vI 0, vI 0, vI 0, vI 0, vN, vI 0, vN, vI 0, vI 0, vI 0, vI 0, vI 0, vI 0, vN, vN, vI 0, vN, vN, vN, vN, vN, vN] := (x4_7 b (by omega)).trans hg_6
  have ha0_7 : gt h_7 (h.1 + 0) = cA 0 1964 (fun _ => 0) := (x4_7 _ (by omega)).trans ha0_6
  have ha1_7 : gt h_7 (h.1 + 1) = cA 0 1115 (fun _ => 0) := (x4_7 _ (by omega)).trans ha1_6
  have ha2_7 : gt h_7 (h.1 + 2) = cA 0 1115 (fun _ => 0) := (x4_7 _ (by omega)).trans ha2_6
  have ha3_7 : gt h_7 (h.1 + 3) = cA 0 3192 (fun _ => 0) := by rw [← hn_6]; exact x3_7
  have hf_7 : ∀ B, B ≠ b → (B < h.1 ∨ h.1 + 15 ≤ B) → gt h_7 B = gt h B := fun B q1 q2 => (x4_7 B (by omega)).trans (hf_6 B q1 q2)
  rw [show h_6.1 = h.1 + 3 from hn_6]
  refine xh_put (dg dc165 17 rfl) rfl (by omega) hg_7 rfl rfl (fun h_8 e_8 => ?_)
  obtain ⟨x1_8, x2_8, x3_8, x4_8⟩ := e_8
  have hn_8 : h_8.1 = h.1 + 4 := by rw [x1_8, hn_7]
  have hs_8 : h_8.2.1 = h.2.1 + 7386 := by rw [x2_8, hs_7]
  have hg_8 : gt h_8 b = cO 12 [vI 0, vR (h.1 + 0), vR (h.1 + 1), vR (h.1 + 2), vR (h.1 + 3), vI 0, vI 0, vN, vI 0, vI 0, vI 0, vI 0, vI 0, vI 0, vN, vI 0, vN, vI 0, vI 0, vI 0, vI 0, vI 0, vI 0, vN, vN, vI 0, vN, vN, vN, vN, vN, vN] := x3_8
  have ha0_8 : gt h_8 (h.1 + 0) = cA 0 1964 (fun _ => 0) := (x4_8 _ (by omega)).trans ha0_7
  have ha1_8 : gt h_8 (h.1 + 1) = cA 0 1115 (fun _ => 0) := (x4_8 _ (by omega)).trans ha1_7
  have ha2_8 : gt h_8 (h.1 + 2) = cA 0 1115 (fun _ => 0) := (x4_8 _ (by omega)).trans ha2_7
  have ha3_8 : gt h_8 (h.1 + 3) = cA 0 3192 (fun _ => 0) := (x4_8 _ (by omega)).trans ha3_7
  have hf_8 : ∀ B, B ≠ b → (B < h.1 ∨ h.1 + 15 ≤ B) → gt h_8 B = gt h B := fun B q1 q2 => (x4_8 B q1).trans (hf_7 B q1 q2)
  refine xh_pu (ls' := [vR b]) (st' := [vR b]) (dg dc165 18 rfl) rfl rfl ?_
  refine xh_pu (ls' := [vR b]) (st' := [vI 400, vR b]) (dg dc165 19 rfl) rfl rfl ?_
  refine xh_newa (n9 := 400) (dg dc165 20 rfl) rfl rfl (fun h_9 e_9 => ?_)
  obtain ⟨x1_9, x2_9, x3_9, x4_9⟩ := e_9
  have hn_9 : h_9.1 = h.1 + 5 := by rw [x1_9, hn_8]
  have hs_9 : h_9.2.1 = h.2.1 + 7786 := by rw [x2_9, hs_8]
  have hg_9 : gt h_9 b = cO 12 [vI 0, vR (h.1 + 0), vR (h.1 + 1), vR (h.1 + 2), vR (h.1 + 3), vI 0, vI 0, vN, vI 0, vI 0, vI 0, vI 0, vI 0, vI 0, vN, vI 0, vN, vI 0, vI 0, vI 0, vI 0, vI 0, vI 0, vN, vN, vI 0, vN, vN, vN, vN, vN, vN] := (x4_9 b (by omega)).trans hg_8
  have ha0_9 : gt h_9 (h.1 + 0) = cA 0 1964 (fun _ => 0) := (x4_9 _ (by omega)).trans ha0_8
  have ha1_9 : gt h_9 (h.1 + 1) = cA 0 1115 (fun _ => 0) := (x4_9 _ (by omega)).trans ha1_8
  have ha2_9 : gt h_9 (h.1 + 2) = cA 0 1115 (fun _ => 0) := (x4_9 _ (by omega)).trans ha2_8
  have ha3_9 : gt h_9 (h.1 + 3) = cA 0 3192 (fun _ => 0) := (x4_9 _ (by omega)).trans ha3_8
  have ha4_9 : gt h_9 (h.1 + 4) = cA 2 400 (fun _ => 0) := by rw [← hn_8]; exact x3_9
  have hf_9 : ∀ B, B ≠ b → (B < h.1 ∨ h.1 + 15 ≤ B) → gt h_9 B = gt h B := fun B q1 q2 => (x4_9 B (by omega)).trans (hf_8 B q1 q2)
  rw [show h_8.1 = h.1 + 4 from hn_8]
  refine xh_put (dg dc165 21 rfl) rfl (by omega) hg_9 rfl rfl (fun h_10 e_10 => ?_)
  obtain ⟨x1_10, x2_10, x3_10, x4_10⟩ := e_10
  have hn_10 : h_10.1 = h.1 + 5 := by rw [x1_10, hn_9]
  have hs_10 : h_10.2.1 = h.2.1 + 7786 := by rw [x2_10, hs_9]
  have hg_10 : gt h_10 b = cO 12 [vI 0, vR (h.1 + 0), vR (h.1 + 1), vR (h.1 + 2), vR (h.1 + 3), vI 0, vI 0, vR (h.1 + 4), vI 0, vI 0, vI 0, vI 0, vI 0, vI 0, vN, vI 0, vN, vI 0, vI 0, vI 0, vI 0, vI 0, vI 0, vN, vN, vI 0, vN, vN, vN, vN, vN, vN] := x3_10
  have ha0_10 : gt h_10 (h.1 + 0) = cA 0 1964 (fun _ => 0) := (x4_10 _ (by omega)).trans ha0_9
  have ha1_10 : gt h_10 (h.1 + 1) = cA 0 1115 (fun _ => 0) := (x4_10 _ (by omega)).trans ha1_9
  have ha2_10 : gt h_10 (h.1 + 2) = cA 0 1115 (fun _ => 0) := (x4_10 _ (by omega)).trans ha2_9
  have ha3_10 : gt h_10 (h.1 + 3) = cA 0 3192 (fun _ => 0) := (x4_10 _ (by omega)).trans ha3_9
  have ha4_10 : gt h_10 (h.1 + 4) = cA 2 400 (fun _ => 0) := (x4_10 _ (by omega)).trans ha4_9
  have hf_10 : ∀ B, B ≠ b → (B < h.1 ∨ h.1 + 15 ≤ B) → gt h_10 B = gt h B := fun B q1 q2 => (x4_10 B q1).trans (hf_9 B q1 q2)
  refine xh_pu (ls' := [vR b]) (st' := [vR b]) (dg dc165 22 rfl) rfl rfl ?_
  refine xh_pu (ls' := [vR b]) (st' := [vI (-1), vR b]) (dg dc165 23 rfl) rfl rfl ?_
  refine xh_put (dg dc165 24 rfl) rfl (by omega) hg_10 rfl rfl (fun h_11 e_11 => ?_)
  obtain ⟨x1_11, x2_11, x3_11, x4_11⟩ := e_11
  have hn_11 : h_11.1 = h.1 + 5 := by rw [x1_11, hn_10]
  have hs_11 : h_11.2.1 = h.2.1 + 7786 := by rw [x2_11, hs_10]
  have hg_11 : gt h_11 b = cO 12 [vI 0, vR (h.1 + 0), vR (h.1 + 1), vR (h.1 + 2), vR (h.1 + 3), vI 0, vI 0, vR (h.1 + 4), vI 0, vI 0, vI 0, vI 0, vI 0, vI (-1), vN, vI 0, vN, vI 0, vI 0, vI 0, vI 0, vI 0, vI 0, vN, vN, vI 0, vN, vN, vN, vN, vN, vN] := x3_11
  have ha0_11 : gt h_11 (h.1 + 0) = cA 0 1964 (fun _ => 0) := (x4_11 _ (by omega)).trans ha0_10
  have ha1_11 : gt h_11 (h.1 + 1) = cA 0 1115 (fun _ => 0) := (x4_11 _ (by omega)).trans ha1_10
  have ha2_11 : gt h_11 (h.1 + 2) = cA 0 1115 (fun _ => 0) := (x4_11 _ (by omega)).trans ha2_10
  have ha3_11 : gt h_11 (h.1 + 3) = cA 0 3192 (fun _ => 0) := (x4_11 _ (by omega)).trans ha3_10
  have ha4_11 : gt h_11 (h.1 + 4) = cA 2 400 (fun _ => 0) := (x4_11 _ (by omega)).trans ha4_10
  have hf_11 : ∀ B, B ≠ b → (B < h.1 ∨ h.1 + 15 ≤ B) → gt h_11 B = gt h B := fun B q1 q2 => (x4_11 B q1).trans (hf_10 B q1 q2)
  refine xh_pu (ls' := [vR b]) (st' := [vR b]) (dg dc165 25 rfl) rfl rfl ?_
  refine xh_pu (ls' := [vR b]) (st' := [vI 5, vR b]) (dg dc165 26 rfl) rfl rfl ?_
  refine xh_newa (n9 := 5) (dg dc165 27 rfl) rfl rfl (fun h_12 e_12 => ?_)
  obtain ⟨x1_12, x2_12, x3_12, x4_12⟩ := e_12
  have hn_12 : h_12.1 = h.1 + 6 := by rw [x1_12, hn_11]
  have hs_12 : h_12.2.1 = h.2.1 + 7791 := by rw [x2_12, hs_11]
  have hg_12 : gt h_12 b = cO 12 [vI 0, vR (h.1 + 0), vR (h.1 + 1), vR (h.1 + 2), vR (h.1 + 3), vI 0, vI 0, vR (h.1 + 4), vI 0, vI 0, vI 0, vI 0, vI 0, vI (-1), vN, vI 0, vN, vI 0, vI 0, vI 0, vI 0, vI 0, vI 0, vN, vN, vI 0, vN, vN, vN, vN, vN, vN] := (x4_12 b (by omega)).trans hg_11
  have ha0_12 : gt h_12 (h.1 + 0) = cA 0 1964 (fun _ => 0) := (x4_12 _ (by omega)).trans ha0_11
  have ha1_12 : gt h_12 (h.1 + 1) = cA 0 1115 (fun _ => 0) := (x4_12 _ (by omega)).trans ha1_11
  have ha2_12 : gt h_12 (h.1 + 2) = cA 0 1115 (fun _ => 0) := (x4_12 _ (by omega)).trans ha2_11
  have ha3_12 : gt h_12 (h.1 + 3) = cA 0 3192 (fun _ => 0) := (x4_12 _ (by omega)).trans ha3_11
  have ha4_12 : gt h_12 (h.1 + 4) = cA 2 400 (fun _ => 0) := (x4_12 _ (by omega)).trans ha4_11
  have ha5_12 : gt h_12 (h.1 + 5) = cA 0 5 (fun _ => 0) := by rw [← hn_11]; exact x3_12
  have hf_12 : ∀ B, B ≠ b → (B < h.1 ∨ h.1 + 15 ≤ B) → gt h_12 B = gt h B := fun B q1 q2 => (x4_12 B (by omega)).trans (hf_11 B q1 q2)
  rw [show h_11.1 = h.1 + 5 from hn_11]
  refine xh_put (dg dc165 28 rfl) rfl (by omega) hg_12 rfl rfl (fun h_13 e_13 => ?_)
  obtain ⟨x1_13, x2_13, x3_13, x4_13⟩ := e_13
  have hn_13 : h_13.1 = h.1 + 6 := by rw [x1_13, hn_12]
  have hs_13 : h_13.2.1 = h.2.1 + 7791 := by rw [x2_13, hs_12]
  have hg_13 : gt h_13 b = cO 12 [vI 0, vR (h.1 + 0), vR (h.1 + 1), vR (h.1 + 2), vR (h.1 + 3), vI 0, vI 0, vR (h.1 + 4), vI 0, vI 0, vI 0, vI 0, vI 0, vI (-1), vR (h.1 + 5), vI 0, vN, vI 0, vI 0, vI 0, vI 0, vI 0, vI 0, vN, vN, vI 0, vN, vN, vN, vN, vN, vN] := x3_13
  have ha0_13 : gt h_13 (h.1 + 0) = cA 0 1964 (fun _ => 0) := (x4_13 _ (by omega)).trans ha0_12
  have ha1_13 : gt h_13 (h.1 + 1) = cA 0 1115 (fun _ => 0) := (x4_13 _ (by omega)).trans ha1_12
  have ha2_13 : gt h_13 (h.1 + 2) = cA 0 1115 (fun _ => 0) := (x4_13 _ (by omega)).trans ha2_12
  have ha3_13 : gt h_13 (h.1 + 3) = cA 0 3192 (fun _ => 0) := (x4_13 _ (by omega)).trans ha3_12
  have ha4_13 : gt h_13 (h.1 + 4) = cA 2 400 (fun _ => 0) := (x4_13 _ (by omega)).trans ha4_12
  have ha5_13 : gt h_13 (h.1 + 5) = cA 0 5 (fun _ => 0) := (x4_13 _ (by omega)).trans ha5_12
  have hf_13 : ∀ B, B ≠ b → (B < h.1 ∨ h.1 + 15 ≤ B) → gt h_13 B = gt h B := fun B q1 q2 => (x4_13 B q1).trans (hf_12 B q1 q2)
  refine xh_pu (ls' := [vR b]) (st' := [vR b]) (dg dc165 29 rfl) rfl rfl ?_
  refine xh_pu (ls' := [vR b]) (st' := [vI 400, vR b]) (dg dc165 30 rfl) rfl rfl ?_
  refine xh_newa (n9 := 400) (dg dc165 31 rfl) rfl rfl (fun h_14 e_14 => ?_)
  obtain ⟨x1_14, x2_14, x3_14, x4_14⟩ := e_14
  have hn_14 : h_14.1 = h.1 + 7 := by rw [x1_14, hn_13]
  have hs_14 : h_14.2.1 = h.2.1 + 8191 := by rw [x2_14, hs_13]
  have hg_14 : gt h_14 b = cO 12 [vI 0, vR (h.1 + 0), vR (h.1 + 1), vR (h.1 + 2), vR (h.1 + 3), vI 0, vI 0, vR (h.1 + 4), vI 0, vI 0, vI 0, vI 0, vI 0, vI (-1), vR (h.1 + 5), vI 0, vN, vI 0, vI 0, vI 0, vI 0, vI 0, vI 0, vN, vN, vI 0, vN, vN, vN, vN, vN, vN] := (x4_14 b (by omega)).trans hg_13
  have ha0_14 : gt h_14 (h.1 + 0) = cA 0 1964 (fun _ => 0) := (x4_14 _ (by omega)).trans ha0_13
  have ha1_14 : gt h_14 (h.1 + 1) = cA 0 1115 (fun _ => 0) := (x4_14 _ (by omega)).trans ha1_13
  have ha2_14 : gt h_14 (h.1 + 2) = cA 0 1115 (fun _ => 0) := (x4_14 _ (by omega)).trans ha2_13
  have ha3_14 : gt h_14 (h.1 + 3) = cA 0 3192 (fun _ => 0) := (x4_14 _ (by omega)).trans ha3_13
  have ha4_14 : gt h_14 (h.1 + 4) = cA 2 400 (fun _ => 0) := (x4_14 _ (by omega)).trans ha4_13
  have ha5_14 : gt h_14 (h.1 + 5) = cA 0 5 (fun _ => 0) := (x4_14 _ (by omega)).trans ha5_13
  have ha6_14 : gt h_14 (h.1 + 6) = cA 0 400 (fun _ => 0) := by rw [← hn_13]; exact x3_14
  have hf_14 : ∀ B, B ≠ b → (B < h.1 ∨ h.1 + 15 ≤ B) → gt h_14 B = gt h B := fun B q1 q2 => (x4_14 B (by omega)).trans (hf_13 B q1 q2)
  rw [show h_13.1 = h.1 + 6 from hn_13]
  refine xh_put (dg dc165 32 rfl) rfl (by omega) hg_14 rfl rfl (fun h_15 e_15 => ?_)
  obtain ⟨x1_15, x2_15, x3_15, x4_15⟩ := e_15
  have hn_15 : h_15.1 = h.1 + 7 := by rw [x1_15, hn_14]
  have hs_15 : h_15.2.1 = h.2.1 + 8191 := by rw [x2_15, hs_14]
  have hg_15 : gt h_15 b = cO 12 [vI 0, vR (h.1 + 0), vR (h.1 + 1), vR (h.1 + 2), vR (h.1 + 3), vI 0, vI 0, vR (h.1 + 4), vI 0, vI 0, vI 0, vI 0, vI 0, vI (-1), vR (h.1 + 5), vI 0, vR (h.1 + 6), vI 0, vI 0, vI 0, vI 0, vI 0, vI 0, vN, vN, vI 0, vN, vN, vN, vN, vN, vN] := x3_15
  have ha0_15 : gt h_15 (h.1 + 0) = cA 0 1964 (fun _ => 0) := (x4_15 _ (by omega)).trans ha0_14
  have ha1_15 : gt h_15 (h.1 + 1) = cA 0 1115 (fun _ => 0) := (x4_15 _ (by omega)).trans ha1_14
  have ha2_15 : gt h_15 (h.1 + 2) = cA 0 1115 (fun _ => 0) := (x4_15 _ (by omega)).trans ha2_14
  have ha3_15 : gt h_15 (h.1 + 3) = cA 0 3192 (fun _ => 0) := (x4_15 _ (by omega)).trans ha3_14
  have ha4_15 : gt h_15 (h.1 + 4) = cA 2 400 (fun _ => 0) := (x4_15 _ (by omega)).trans ha4_14
  have ha5_15 : gt h_15 (h.1 + 5) = cA 0 5 (fun _ => 0) := (x4_15 _ (by omega)).trans ha5_14
  have ha6_15 : gt h_15 (h.1 + 6) = cA 0 400 (fun _ => 0) := (x4_15 _ (by omega)).trans ha6_14
  have hf_15 : ∀ B, B ≠ b → (B < h.1 ∨ h.1 + 15 ≤ B) → gt h_15 B = gt h B := fun B q1 q2 => (x4_15 B q1).trans (hf_14 B q1 q2)
  refine xh_pu (ls' := [vR b]) (st' := [vR b]) (dg dc165 33 rfl) rfl rfl ?_
  refine xh_pu (ls' := [vR b]) (st' := [vI 6000, vR b]) (dg dc165 34 rfl) rfl rfl ?_
  refine xh_newa (n9 := 6000) (dg dc165 35 rfl) rfl rfl (fun h_16 e_16 => ?_)
  obtain ⟨x1_16, x2_16, x3_16, x4_16⟩ := e_16
  have hn_16 : h_16.1 = h.1 + 8 := by rw [x1_16, hn_15]
  have hs_16 : h_16.2.1 = h.2.1 + 14191 := by rw [x2_16, hs_15]
  have hg_16 : gt h_16 b = cO 12 [vI 0, vR (h.1 + 0), vR (h.1 + 1), vR (h.1 + 2), vR (h.1 + 3), vI 0, vI 0, vR (h.1 + 4), vI 0, vI 0, vI 0, vI 0, vI 0, vI (-1), vR (h.1 + 5), vI 0, vR (h.1 + 6), vI 0, vI 0, vI 0, vI 0, vI 0, vI 0, vN, vN, vI 0, vN, vN, vN, vN, vN, vN] := (x4_16 b (by omega)).trans hg_15
  have ha0_16 : gt h_16 (h.1 + 0) = cA 0 1964 (fun _ => 0) := (x4_16 _ (by omega)).trans ha0_15
  have ha1_16 : gt h_16 (h.1 + 1) = cA 0 1115 (fun _ => 0) := (x4_16 _ (by omega)).trans ha1_15
  have ha2_16 : gt h_16 (h.1 + 2) = cA 0 1115 (fun _ => 0) := (x4_16 _ (by omega)).trans ha2_15
  have ha3_16 : gt h_16 (h.1 + 3) = cA 0 3192 (fun _ => 0) := (x4_16 _ (by omega)).trans ha3_15
  have ha4_16 : gt h_16 (h.1 + 4) = cA 2 400 (fun _ => 0) := (x4_16 _ (by omega)).trans ha4_15
  have ha5_16 : gt h_16 (h.1 + 5) = cA 0 5 (fun _ => 0) := (x4_16 _ (by omega)).trans ha5_15
  have ha6_16 : gt h_16 (h.1 + 6) = cA 0 400 (fun _ => 0) := (x4_16 _ (by omega)).trans ha6_15
  have ha7_16 : gt h_16 (h.1 + 7) = cA 1 6000 (fun _ => 0) := by rw [← hn_15]; exact x3_16
  have hf_16 : ∀ B, B ≠ b → (B < h.1 ∨ h.1 + 15 ≤ B) → gt h_16 B = gt h B := fun B q1 q2 => (x4_16 B (by omega)).trans (hf_15 B q1 q2)
  rw [show h_15.1 = h.1 + 7 from hn_15]
  refine xh_put (dg dc165 36 rfl) rfl (by omega) hg_16 rfl rfl (fun h_17 e_17 => ?_)
  obtain ⟨x1_17, x2_17, x3_17, x4_17⟩ := e_17
  have hn_17 : h_17.1 = h.1 + 8 := by rw [x1_17, hn_16]
  have hs_17 : h_17.2.1 = h.2.1 + 14191 := by rw [x2_17, hs_16]
  have hg_17 : gt h_17 b = cO 12 [vI 0, vR (h.1 + 0), vR (h.1 + 1), vR (h.1 + 2), vR (h.1 + 3), vI 0, vI 0, vR (h.1 + 4), vI 0, vI 0, vI 0, vI 0, vI 0, vI (-1), vR (h.1 + 5), vI 0, vR (h.1 + 6), vI 0, vI 0, vI 0, vI 0, vI 0, vI 0, vR (h.1 + 7), vN, vI 0, vN, vN, vN, vN, vN, vN] := x3_17
  have ha0_17 : gt h_17 (h.1 + 0) = cA 0 1964 (fun _ => 0) := (x4_17 _ (by omega)).trans ha0_16
  have ha1_17 : gt h_17 (h.1 + 1) = cA 0 1115 (fun _ => 0) := (x4_17 _ (by omega)).trans ha1_16
  have ha2_17 : gt h_17 (h.1 + 2) = cA 0 1115 (fun _ => 0) := (x4_17 _ (by omega)).trans ha2_16
  have ha3_17 : gt h_17 (h.1 + 3) = cA 0 3192 (fun _ => 0) := (x4_17 _ (by omega)).trans ha3_16
  have ha4_17 : gt h_17 (h.1 + 4) = cA 2 400 (fun _ => 0) := (x4_17 _ (by omega)).trans ha4_16
  have ha5_17 : gt h_17 (h.1 + 5) = cA 0 5 (fun _ => 0) := (x4_17 _ (by omega)).trans ha5_16
  have ha6_17 : gt h_17 (h.1 + 6) = cA 0 400 (fun _ => 0) := (x4_17 _ (by omega)).trans ha6_16
  have ha7_17 : gt h_17 (h.1 + 7) = cA 1 6000 (fun _ => 0) := (x4_17 _ (by omega)).trans ha7_16
  have hf_17 : ∀ B, B ≠ b → (B < h.1 ∨ h.1 + 15 ≤ B) → gt h_17 B = gt h B := fun B q1 q2 => (x4_17 B q1).trans (hf_16 B q1 q2)
  refine xh_pu (ls' := [vR b]) (st' := [vR b]) (dg dc165 37 rfl) rfl rfl ?_
  refine xh_pu (ls' := [vR b]) (st' := [vI 16384, vR b]) (dg dc165 38 rfl) rfl rfl ?_
  refine xh_newa (n9 := 16384) (dg dc165 39 rfl) rfl rfl (fun h_18 e_18 => ?_)
  obtain ⟨x1_18, x2_18, x3_18, x4_18⟩ := e_18
  have hn_18 : h_18.1 = h.1 + 9 := by rw [x1_18, hn_17]
  have hs_18 : h_18.2.1 = h.2.1 + 30575 := by rw [x2_18, hs_17]
  have hg_18 : gt h_18 b = cO 12 [vI 0, vR (h.1 + 0), vR (h.1 + 1), vR (h.1 + 2), vR (h.1 + 3), vI 0, vI 0, vR (h.1 + 4), vI 0, vI 0, vI 0, vI 0, vI 0, vI (-1), vR (h.1 + 5), vI 0, vR (h.1 + 6), vI 0, vI 0, vI 0, vI 0, vI 0, vI 0, vR (h.1 + 7), vN, vI 0, vN, vN, vN, vN, vN, vN] := (x4_18 b (by omega)).trans hg_17
  have ha0_18 : gt h_18 (h.1 + 0) = cA 0 1964 (fun _ => 0) := (x4_18 _ (by omega)).trans ha0_17
  have ha1_18 : gt h_18 (h.1 + 1) = cA 0 1115 (fun _ => 0) := (x4_18 _ (by omega)).trans ha1_17
  have ha2_18 : gt h_18 (h.1 + 2) = cA 0 1115 (fun _ => 0) := (x4_18 _ (by omega)).trans ha2_17
  have ha3_18 : gt h_18 (h.1 + 3) = cA 0 3192 (fun _ => 0) := (x4_18 _ (by omega)).trans ha3_17
  have ha4_18 : gt h_18 (h.1 + 4) = cA 2 400 (fun _ => 0) := (x4_18 _ (by omega)).trans ha4_17
  have ha5_18 : gt h_18 (h.1 + 5) = cA 0 5 (fun _ => 0) := (x4_18 _ (by omega)).trans ha5_17
  have ha6_18 : gt h_18 (h.1 + 6) = cA 0 400 (fun _ => 0) := (x4_18 _ (by omega)).trans ha6_17
  have ha7_18 : gt h_18 (h.1 + 7) = cA 1 6000 (fun _ => 0) := (x4_18 _ (by omega)).trans ha7_17
  have ha8_18 : gt h_18 (h.1 + 8) = cA 0 16384 (fun _ => 0) := by rw [← hn_17]; exact x3_18
  have hf_18 : ∀ B, B ≠ b → (B < h.1 ∨ h.1 + 15 ≤ B) → gt h_18 B = gt h B := fun B q1 q2 => (x4_18 B (by omega)).trans (hf_17 B q1 q2)
  rw [show h_17.1 = h.1 + 8 from hn_17]
  refine xh_put (dg dc165 40 rfl) rfl (by omega) hg_18 rfl rfl (fun h_19 e_19 => ?_)
  obtain ⟨x1_19, x2_19, x3_19, x4_19⟩ := e_19
  have hn_19 : h_19.1 = h.1 + 9 := by rw [x1_19, hn_18]
  have hs_19 : h_19.2.1 = h.2.1 + 30575 := by rw [x2_19, hs_18]
  have hg_19 : gt h_19 b = cO 12 [vI 0, vR (h.1 + 0), vR (h.1 + 1), vR (h.1 + 2), vR (h.1 + 3), vI 0, vI 0, vR (h.1 + 4), vI 0, vI 0, vI 0, vI 0, vI 0, vI (-1), vR (h.1 + 5), vI 0, vR (h.1 + 6), vI 0, vI 0, vI 0, vI 0, vI 0, vI 0, vR (h.1 + 7), vR (h.1 + 8), vI 0, vN, vN, vN, vN, vN, vN] := x3_19
  have ha0_19 : gt h_19 (h.1 + 0) = cA 0 1964 (fun _ => 0) := (x4_19 _ (by omega)).trans ha0_18
  have ha1_19 : gt h_19 (h.1 + 1) = cA 0 1115 (fun _ => 0) := (x4_19 _ (by omega)).trans ha1_18
  have ha2_19 : gt h_19 (h.1 + 2) = cA 0 1115 (fun _ => 0) := (x4_19 _ (by omega)).trans ha2_18
  have ha3_19 : gt h_19 (h.1 + 3) = cA 0 3192 (fun _ => 0) := (x4_19 _ (by omega)).trans ha3_18
  have ha4_19 : gt h_19 (h.1 + 4) = cA 2 400 (fun _ => 0) := (x4_19 _ (by omega)).trans ha4_18
  have ha5_19 : gt h_19 (h.1 + 5) = cA 0 5 (fun _ => 0) := (x4_19 _ (by omega)).trans ha5_18
  have ha6_19 : gt h_19 (h.1 + 6) = cA 0 400 (fun _ => 0) := (x4_19 _ (by omega)).trans ha6_18
  have ha7_19 : gt h_19 (h.1 + 7) = cA 1 6000 (fun _ => 0) := (x4_19 _ (by omega)).trans ha7_18
  have ha8_19 : gt h_19 (h.1 + 8) = cA 0 16384 (fun _ => 0) := (x4_19 _ (by omega)).trans ha8_18
  have hf_19 : ∀ B, B ≠ b → (B < h.1 ∨ h.1 + 15 ≤ B) → gt h_19 B = gt h B := fun B q1 q2 => (x4_19 B q1).trans (hf_18 B q1 q2)
  refine xh_pu (ls' := [vR b]) (st' := [vR b]) (dg dc165 41 rfl) rfl rfl ?_
  refine xh_pu (ls' := [vR b]) (st' := [vI 10, vR b]) (dg dc165 42 rfl) rfl rfl ?_
  refine xh_newa (n9 := 10) (dg dc165 43 rfl) rfl rfl (fun h_20 e_20 => ?_)
  obtain ⟨x1_20, x2_20, x3_20, x4_20⟩ := e_20
  have hn_20 : h_20.1 = h.1 + 10 := by rw [x1_20, hn_19]
  have hs_20 : h_20.2.1 = h.2.1 + 30585 := by rw [x2_20, hs_19]
  have hg_20 : gt h_20 b = cO 12 [vI 0, vR (h.1 + 0), vR (h.1 + 1), vR (h.1 + 2), vR (h.1 + 3), vI 0, vI 0, vR (h.1 + 4), vI 0, vI 0, vI 0, vI 0, vI 0, vI (-1), vR (h.1 + 5), vI 0, vR (h.1 + 6), vI 0, vI 0, vI 0, vI 0, vI 0, vI 0, vR (h.1 + 7), vR (h.1 + 8), vI 0, vN, vN, vN, vN, vN, vN] := (x4_20 b (by omega)).trans hg_19
  have ha0_20 : gt h_20 (h.1 + 0) = cA 0 1964 (fun _ => 0) := (x4_20 _ (by omega)).trans ha0_19
  have ha1_20 : gt h_20 (h.1 + 1) = cA 0 1115 (fun _ => 0) := (x4_20 _ (by omega)).trans ha1_19
  have ha2_20 : gt h_20 (h.1 + 2) = cA 0 1115 (fun _ => 0) := (x4_20 _ (by omega)).trans ha2_19
  have ha3_20 : gt h_20 (h.1 + 3) = cA 0 3192 (fun _ => 0) := (x4_20 _ (by omega)).trans ha3_19
  have ha4_20 : gt h_20 (h.1 + 4) = cA 2 400 (fun _ => 0) := (x4_20 _ (by omega)).trans ha4_19
  have ha5_20 : gt h_20 (h.1 + 5) = cA 0 5 (fun _ => 0) := (x4_20 _ (by omega)).trans ha5_19
  have ha6_20 : gt h_20 (h.1 + 6) = cA 0 400 (fun _ => 0) := (x4_20 _ (by omega)).trans ha6_19
  have ha7_20 : gt h_20 (h.1 + 7) = cA 1 6000 (fun _ => 0) := (x4_20 _ (by omega)).trans ha7_19
  have ha8_20 : gt h_20 (h.1 + 8) = cA 0 16384 (fun _ => 0) := (x4_20 _ (by omega)).trans ha8_19
  have ha9_20 : gt h_20 (h.1 + 9) = cA 0 10 (fun _ => 0) := by rw [← hn_19]; exact x3_20
  have hf_20 : ∀ B, B ≠ b → (B < h.1 ∨ h.1 + 15 ≤ B) → gt h_20 B = gt h B := fun B q1 q2 => (x4_20 B (by omega)).trans (hf_19 B q1 q2)
  rw [show h_19.1 = h.1 + 9 from hn_19]
  refine xh_put (dg dc165 44 rfl) rfl (by omega) hg_20 rfl rfl (fun h_21 e_21 => ?_)
  obtain ⟨x1_21, x2_21, x3_21, x4_21⟩ := e_21
  have hn_21 : h_21.1 = h.1 + 10 := by rw [x1_21, hn_20]
  have hs_21 : h_21.2.1 = h.2.1 + 30585 := by rw [x2_21, hs_20]
  have hg_21 : gt h_21 b = cO 12 [vI 0, vR (h.1 + 0), vR (h.1 + 1), vR (h.1 + 2), vR (h.1 + 3), vI 0, vI 0, vR (h.1 + 4), vI 0, vI 0, vI 0, vI 0, vI 0, vI (-1), vR (h.1 + 5), vI 0, vR (h.1 + 6), vI 0, vI 0, vI 0, vI 0, vI 0, vI 0, vR (h.1 + 7), vR (h.1 + 8), vI 0, vR (h.1 + 9), vN, vN, vN, vN, vN] := x3_21
  have ha0_21 : gt h_21 (h.1 + 0) = cA 0 1964 (fun _ => 0) := (x4_21 _ (by omega)).trans ha0_20
  have ha1_21 : gt h_21 (h.1 + 1) = cA 0 1115 (fun _ => 0) := (x4_21 _ (by omega)).trans ha1_20
  have ha2_21 : gt h_21 (h.1 + 2) = cA 0 1115 (fun _ => 0) := (x4_21 _ (by omega)).trans ha2_20
  have ha3_21 : gt h_21 (h.1 + 3) = cA 0 3192 (fun _ => 0) := (x4_21 _ (by omega)).trans ha3_20
  have ha4_21 : gt h_21 (h.1 + 4) = cA 2 400 (fun _ => 0) := (x4_21 _ (by omega)).trans ha4_20
  have ha5_21 : gt h_21 (h.1 + 5) = cA 0 5 (fun _ => 0) := (x4_21 _ (by omega)).trans ha5_20
  have ha6_21 : gt h_21 (h.1 + 6) = cA 0 400 (fun _ => 0) := (x4_21 _ (by omega)).trans ha6_20
  have ha7_21 : gt h_21 (h.1 + 7) = cA 1 6000 (fun _ => 0) := (x4_21 _ (by omega)).trans ha7_20
  have ha8_21 : gt h_21 (h.1 + 8) = cA 0 16384 (fun _ => 0) := (x4_21 _ (by omega)).trans ha8_20
  have ha9_21 : gt h_21 (h.1 + 9) = cA 0 10 (fun _ => 0) := (x4_21 _ (by omega)).trans ha9_20
  have hf_21 : ∀ B, B ≠ b → (B < h.1 ∨ h.1 + 15 ≤ B) → gt h_21 B = gt h B := fun B q1 q2 => (x4_21 B q1).trans (hf_20 B q1 q2)
  refine xh_pu (ls' := [vR b]) (st' := [vR b]) (dg dc165 45 rfl) rfl rfl ?_
  refine xh_pu (ls' := [vR b]) (st' := [vI 10, vR b]) (dg dc165 46 rfl) rfl rfl ?_
  refine xh_newa (n9 := 10) (dg dc165 47 rfl) rfl rfl (fun h_22 e_22 => ?_)
  obtain ⟨x1_22, x2_22, x3_22, x4_22⟩ := e_22
  have hn_22 : h_22.1 = h.1 + 11 := by rw [x1_22, hn_21]
  have hs_22 : h_22.2.1 = h.2.1 + 30595 := by rw [x2_22, hs_21]
  have hg_22 : gt h_22 b = cO 12 [vI 0, vR (h.1 + 0), vR (h.1 + 1), vR (h.1 + 2), vR (h.1 + 3), vI 0, vI 0, vR (h.1 + 4), vI 0, vI 0, vI 0, vI 0, vI 0, vI (-1), vR (h.1 + 5), vI 0, vR (h.1 + 6), vI 0, vI 0, vI 0, vI 0, vI 0, vI 0, vR (h.1 + 7), vR (h.1 + 8), vI 0, vR (h.1 + 9), vN, vN, vN, vN, vN] := (x4_22 b (by omega)).trans hg_21
  have ha0_22 : gt h_22 (h.1 + 0) = cA 0 1964 (fun _ => 0) := (x4_22 _ (by omega)).trans ha0_21
  have ha1_22 : gt h_22 (h.1 + 1) = cA 0 1115 (fun _ => 0) := (x4_22 _ (by omega)).trans ha1_21
  have ha2_22 : gt h_22 (h.1 + 2) = cA 0 1115 (fun _ => 0) := (x4_22 _ (by omega)).trans ha2_21
  have ha3_22 : gt h_22 (h.1 + 3) = cA 0 3192 (fun _ => 0) := (x4_22 _ (by omega)).trans ha3_21
  have ha4_22 : gt h_22 (h.1 + 4) = cA 2 400 (fun _ => 0) := (x4_22 _ (by omega)).trans ha4_21
  have ha5_22 : gt h_22 (h.1 + 5) = cA 0 5 (fun _ => 0) := (x4_22 _ (by omega)).trans ha5_21
  have ha6_22 : gt h_22 (h.1 + 6) = cA 0 400 (fun _ => 0) := (x4_22 _ (by omega)).trans ha6_21
  have ha7_22 : gt h_22 (h.1 + 7) = cA 1 6000 (fun _ => 0) := (x4_22 _ (by omega)).trans ha7_21
  have ha8_22 : gt h_22 (h.1 + 8) = cA 0 16384 (fun _ => 0) := (x4_22 _ (by omega)).trans ha8_21
  have ha9_22 : gt h_22 (h.1 + 9) = cA 0 10 (fun _ => 0) := (x4_22 _ (by omega)).trans ha9_21
  have ha10_22 : gt h_22 (h.1 + 10) = cA 0 10 (fun _ => 0) := by rw [← hn_21]; exact x3_22
  have hf_22 : ∀ B, B ≠ b → (B < h.1 ∨ h.1 + 15 ≤ B) → gt h_22 B = gt h B := fun B q1 q2 => (x4_22 B (by omega)).trans (hf_21 B q1 q2)
  rw [show h_21.1 = h.1 + 10 from hn_21]
  refine xh_put (dg dc165 48 rfl) rfl (by omega) hg_22 rfl rfl (fun h_23 e_23 => ?_)
  obtain ⟨x1_23, x2_23, x3_23, x4_23⟩ := e_23
  have hn_23 : h_23.1 = h.1 + 11 := by rw [x1_23, hn_22]
  have hs_23 : h_23.2.1 = h.2.1 + 30595 := by rw [x2_23, hs_22]
  have hg_23 : gt h_23 b = cO 12 [vI 0, vR (h.1 + 0), vR (h.1 + 1), vR (h.1 + 2), vR (h.1 + 3), vI 0, vI 0, vR (h.1 + 4), vI 0, vI 0, vI 0, vI 0, vI 0, vI (-1), vR (h.1 + 5), vI 0, vR (h.1 + 6), vI 0, vI 0, vI 0, vI 0, vI 0, vI 0, vR (h.1 + 7), vR (h.1 + 8), vI 0, vR (h.1 + 9), vR (h.1 + 10), vN, vN, vN, vN] := x3_23
  have ha0_23 : gt h_23 (h.1 + 0) = cA 0 1964 (fun _ => 0) := (x4_23 _ (by omega)).trans ha0_22
  have ha1_23 : gt h_23 (h.1 + 1) = cA 0 1115 (fun _ => 0) := (x4_23 _ (by omega)).trans ha1_22
  have ha2_23 : gt h_23 (h.1 + 2) = cA 0 1115 (fun _ => 0) := (x4_23 _ (by omega)).trans ha2_22
  have ha3_23 : gt h_23 (h.1 + 3) = cA 0 3192 (fun _ => 0) := (x4_23 _ (by omega)).trans ha3_22
  have ha4_23 : gt h_23 (h.1 + 4) = cA 2 400 (fun _ => 0) := (x4_23 _ (by omega)).trans ha4_22
  have ha5_23 : gt h_23 (h.1 + 5) = cA 0 5 (fun _ => 0) := (x4_23 _ (by omega)).trans ha5_22
  have ha6_23 : gt h_23 (h.1 + 6) = cA 0 400 (fun _ => 0) := (x4_23 _ (by omega)).trans ha6_22
  have ha7_23 : gt h_23 (h.1 + 7) = cA 1 6000 (fun _ => 0) := (x4_23 _ (by omega)).trans ha7_22
  have ha8_23 : gt h_23 (h.1 + 8) = cA 0 16384 (fun _ => 0) := (x4_23 _ (by omega)).trans ha8_22
  have ha9_23 : gt h_23 (h.1 + 9) = cA 0 10 (fun _ => 0) := (x4_23 _ (by omega)).trans ha9_22
  have ha10_23 : gt h_23 (h.1 + 10) = cA 0 10 (fun _ => 0) := (x4_23 _ (by omega)).trans ha10_22
  have hf_23 : ∀ B, B ≠ b → (B < h.1 ∨ h.1 + 15 ≤ B) → gt h_23 B = gt h B := fun B q1 q2 => (x4_23 B q1).trans (hf_22 B q1 q2)
  refine xh_pu (ls' := [vR b]) (st' := [vR b]) (dg dc165 49 rfl) rfl rfl ?_
  refine xh_pu (ls' := [vR b]) (st' := [vI 10, vR b]) (dg dc165 50 rfl) rfl rfl ?_
  refine xh_newa (n9 := 10) (dg dc165 51 rfl) rfl rfl (fun h_24 e_24 => ?_)
  obtain ⟨x1_24, x2_24, x3_24, x4_24⟩ := e_24
  have hn_24 : h_24.1 = h.1 + 12 := by rw [x1_24, hn_23]
  have hs_24 : h_24.2.1 = h.2.1 + 30605 := by rw [x2_24, hs_23]
  have hg_24 : gt h_24 b = cO 12 [vI 0, vR (h.1 + 0), vR (h.1 + 1), vR (h.1 + 2), vR (h.1 + 3), vI 0, vI 0, vR (h.1 + 4), vI 0, vI 0, vI 0, vI 0, vI 0, vI (-1), vR (h.1 + 5), vI 0, vR (h.1 + 6), vI 0, vI 0, vI 0, vI 0, vI 0, vI 0, vR (h.1 + 7), vR (h.1 + 8), vI 0, vR (h.1 + 9), vR (h.1 + 10), vN, vN, vN, vN] := (x4_24 b (by omega)).trans hg_23
  have ha0_24 : gt h_24 (h.1 + 0) = cA 0 1964 (fun _ => 0) := (x4_24 _ (by omega)).trans ha0_23
  have ha1_24 : gt h_24 (h.1 + 1) = cA 0 1115 (fun _ => 0) := (x4_24 _ (by omega)).trans ha1_23
  have ha2_24 : gt h_24 (h.1 + 2) = cA 0 1115 (fun _ => 0) := (x4_24 _ (by omega)).trans ha2_23
  have ha3_24 : gt h_24 (h.1 + 3) = cA 0 3192 (fun _ => 0) := (x4_24 _ (by omega)).trans ha3_23
  have ha4_24 : gt h_24 (h.1 + 4) = cA 2 400 (fun _ => 0) := (x4_24 _ (by omega)).trans ha4_23
  have ha5_24 : gt h_24 (h.1 + 5) = cA 0 5 (fun _ => 0) := (x4_24 _ (by omega)).trans ha5_23
  have ha6_24 : gt h_24 (h.1 + 6) = cA 0 400 (fun _ => 0) := (x4_24 _ (by omega)).trans ha6_23
  have ha7_24 : gt h_24 (h.1 + 7) = cA 1 6000 (fun _ => 0) := (x4_24 _ (by omega)).trans ha7_23
  have ha8_24 : gt h_24 (h.1 + 8) = cA 0 16384 (fun _ => 0) := (x4_24 _ (by omega)).trans ha8_23
  have ha9_24 : gt h_24 (h.1 + 9) = cA 0 10 (fun _ => 0) := (x4_24 _ (by omega)).trans ha9_23
  have ha10_24 : gt h_24 (h.1 + 10) = cA 0 10 (fun _ => 0) := (x4_24 _ (by omega)).trans ha10_23
  have ha11_24 : gt h_24 (h.1 + 11) = cA 3 10 (fun _ => 0) := by rw [← hn_23]; exact x3_24
  have hf_24 : ∀ B, B ≠ b → (B < h.1 ∨ h.1 + 15 ≤ B) → gt h_24 B = gt h B := fun B q1 q2 => (x4_24 B (by omega)).trans (hf_23 B q1 q2)
  rw [show h_23.1 = h.1 + 11 from hn_23]
  refine xh_put (dg dc165 52 rfl) rfl (by omega) hg_24 rfl rfl (fun h_25 e_25 => ?_)
  obtain ⟨x1_25, x2_25, x3_25, x4_25⟩ := e_25
  have hn_25 : h_25.1 = h.1 + 12 := by rw [x1_25, hn_24]
  have hs_25 : h_25.2.1 = h.2.1 + 30605 := by rw [x2_25, hs_24]
  have hg_25 : gt h_25 b = cO 12 [vI 0, vR (h.1 + 0), vR (h.1 + 1), vR (h.1 + 2), vR (h.1 + 3), vI 0, vI 0, vR (h.1 + 4), vI 0, vI 0, vI 0, vI 0, vI 0, vI (-1), vR (h.1 + 5), vI 0, vR (h.1 + 6), vI 0, vI 0, vI 0, vI 0, vI 0, vI 0, vR (h.1 + 7), vR (h.1 + 8), vI 0, vR (h.1 + 9), vR (h.1 + 10), vR (h.1 + 11), vN, vN, vN] := x3_25
  have ha0_25 : gt h_25 (h.1 + 0) = cA 0 1964 (fun _ => 0) := (x4_25 _ (by omega)).trans ha0_24
  have ha1_25 : gt h_25 (h.1 + 1) = cA 0 1115 (fun _ => 0) := (x4_25 _ (by omega)).trans ha1_24
  have ha2_25 : gt h_25 (h.1 + 2) = cA 0 1115 (fun _ => 0) := (x4_25 _ (by omega)).trans ha2_24
  have ha3_25 : gt h_25 (h.1 + 3) = cA 0 3192 (fun _ => 0) := (x4_25 _ (by omega)).trans ha3_24
  have ha4_25 : gt h_25 (h.1 + 4) = cA 2 400 (fun _ => 0) := (x4_25 _ (by omega)).trans ha4_24
  have ha5_25 : gt h_25 (h.1 + 5) = cA 0 5 (fun _ => 0) := (x4_25 _ (by omega)).trans ha5_24
  have ha6_25 : gt h_25 (h.1 + 6) = cA 0 400 (fun _ => 0) := (x4_25 _ (by omega)).trans ha6_24
  have ha7_25 : gt h_25 (h.1 + 7) = cA 1 6000 (fun _ => 0) := (x4_25 _ (by omega)).trans ha7_24
  have ha8_25 : gt h_25 (h.1 + 8) = cA 0 16384 (fun _ => 0) := (x4_25 _ (by omega)).trans ha8_24
  have ha9_25 : gt h_25 (h.1 + 9) = cA 0 10 (fun _ => 0) := (x4_25 _ (by omega)).trans ha9_24
  have ha10_25 : gt h_25 (h.1 + 10) = cA 0 10 (fun _ => 0) := (x4_25 _ (by omega)).trans ha10_24
  have ha11_25 : gt h_25 (h.1 + 11) = cA 3 10 (fun _ => 0) := (x4_25 _ (by omega)).trans ha11_24
  have hf_25 : ∀ B, B ≠ b → (B < h.1 ∨ h.1 + 15 ≤ B) → gt h_25 B = gt h B := fun B q1 q2 => (x4_25 B q1).trans (hf_24 B q1 q2)
  refine xh_pu (ls' := [vR b]) (st' := [vR b]) (dg dc165 53 rfl) rfl rfl ?_
  refine xh_pu (ls' := [vR b]) (st' := [vI 7, vR b]) (dg dc165 54 rfl) rfl rfl ?_
  refine xh_newa (n9 := 7) (dg dc165 55 rfl) rfl rfl (fun h_26 e_26 => ?_)
  obtain ⟨x1_26, x2_26, x3_26, x4_26⟩ := e_26
  have hn_26 : h_26.1 = h.1 + 13 := by rw [x1_26, hn_25]
  have hs_26 : h_26.2.1 = h.2.1 + 30612 := by rw [x2_26, hs_25]
  have hg_26 : gt h_26 b = cO 12 [vI 0, vR (h.1 + 0), vR (h.1 + 1), vR (h.1 + 2), vR (h.1 + 3), vI 0, vI 0, vR (h.1 + 4), vI 0, vI 0, vI 0, vI 0, vI 0, vI (-1), vR (h.1 + 5), vI 0, vR (h.1 + 6), vI 0, vI 0, vI 0, vI 0, vI 0, vI 0, vR (h.1 + 7), vR (h.1 + 8), vI 0, vR (h.1 + 9), vR (h.1 + 10), vR (h.1 + 11), vN, vN, vN] := (x4_26 b (by omega)).trans hg_25
  have ha0_26 : gt h_26 (h.1 + 0) = cA 0 1964 (fun _ => 0) := (x4_26 _ (by omega)).trans ha0_25
  have ha1_26 : gt h_26 (h.1 + 1) = cA 0 1115 (fun _ => 0) := (x4_26 _ (by omega)).trans ha1_25
  have ha2_26 : gt h_26 (h.1 + 2) = cA 0 1115 (fun _ => 0) := (x4_26 _ (by omega)).trans ha2_25
  have ha3_26 : gt h_26 (h.1 + 3) = cA 0 3192 (fun _ => 0) := (x4_26 _ (by omega)).trans ha3_25
  have ha4_26 : gt h_26 (h.1 + 4) = cA 2 400 (fun _ => 0) := (x4_26 _ (by omega)).trans ha4_25
  have ha5_26 : gt h_26 (h.1 + 5) = cA 0 5 (fun _ => 0) := (x4_26 _ (by omega)).trans ha5_25
  have ha6_26 : gt h_26 (h.1 + 6) = cA 0 400 (fun _ => 0) := (x4_26 _ (by omega)).trans ha6_25
  have ha7_26 : gt h_26 (h.1 + 7) = cA 1 6000 (fun _ => 0) := (x4_26 _ (by omega)).trans ha7_25
  have ha8_26 : gt h_26 (h.1 + 8) = cA 0 16384 (fun _ => 0) := (x4_26 _ (by omega)).trans ha8_25
  have ha9_26 : gt h_26 (h.1 + 9) = cA 0 10 (fun _ => 0) := (x4_26 _ (by omega)).trans ha9_25
  have ha10_26 : gt h_26 (h.1 + 10) = cA 0 10 (fun _ => 0) := (x4_26 _ (by omega)).trans ha10_25
  have ha11_26 : gt h_26 (h.1 + 11) = cA 3 10 (fun _ => 0) := (x4_26 _ (by omega)).trans ha11_25
  have ha12_26 : gt h_26 (h.1 + 12) = cA 0 7 (fun _ => 0) := by rw [← hn_25]; exact x3_26
  have hf_26 : ∀ B, B ≠ b → (B < h.1 ∨ h.1 + 15 ≤ B) → gt h_26 B = gt h B := fun B q1 q2 => (x4_26 B (by omega)).trans (hf_25 B q1 q2)
  rw [show h_25.1 = h.1 + 12 from hn_25]
  refine xh_put (dg dc165 56 rfl) rfl (by omega) hg_26 rfl rfl (fun h_27 e_27 => ?_)
  obtain ⟨x1_27, x2_27, x3_27, x4_27⟩ := e_27
  have hn_27 : h_27.1 = h.1 + 13 := by rw [x1_27, hn_26]
  have hs_27 : h_27.2.1 = h.2.1 + 30612 := by rw [x2_27, hs_26]
  have hg_27 : gt h_27 b = cO 12 [vI 0, vR (h.1 + 0), vR (h.1 + 1), vR (h.1 + 2), vR (h.1 + 3), vI 0, vI 0, vR (h.1 + 4), vI 0, vI 0, vI 0, vI 0, vI 0, vI (-1), vR (h.1 + 5), vI 0, vR (h.1 + 6), vI 0, vI 0, vI 0, vI 0, vI 0, vI 0, vR (h.1 + 7), vR (h.1 + 8), vI 0, vR (h.1 + 9), vR (h.1 + 10), vR (h.1 + 11), vR (h.1 + 12), vN, vN] := x3_27
  have ha0_27 : gt h_27 (h.1 + 0) = cA 0 1964 (fun _ => 0) := (x4_27 _ (by omega)).trans ha0_26
  have ha1_27 : gt h_27 (h.1 + 1) = cA 0 1115 (fun _ => 0) := (x4_27 _ (by omega)).trans ha1_26
  have ha2_27 : gt h_27 (h.1 + 2) = cA 0 1115 (fun _ => 0) := (x4_27 _ (by omega)).trans ha2_26
  have ha3_27 : gt h_27 (h.1 + 3) = cA 0 3192 (fun _ => 0) := (x4_27 _ (by omega)).trans ha3_26
  have ha4_27 : gt h_27 (h.1 + 4) = cA 2 400 (fun _ => 0) := (x4_27 _ (by omega)).trans ha4_26
  have ha5_27 : gt h_27 (h.1 + 5) = cA 0 5 (fun _ => 0) := (x4_27 _ (by omega)).trans ha5_26
  have ha6_27 : gt h_27 (h.1 + 6) = cA 0 400 (fun _ => 0) := (x4_27 _ (by omega)).trans ha6_26
  have ha7_27 : gt h_27 (h.1 + 7) = cA 1 6000 (fun _ => 0) := (x4_27 _ (by omega)).trans ha7_26
  have ha8_27 : gt h_27 (h.1 + 8) = cA 0 16384 (fun _ => 0) := (x4_27 _ (by omega)).trans ha8_26
  have ha9_27 : gt h_27 (h.1 + 9) = cA 0 10 (fun _ => 0) := (x4_27 _ (by omega)).trans ha9_26
  have ha10_27 : gt h_27 (h.1 + 10) = cA 0 10 (fun _ => 0) := (x4_27 _ (by omega)).trans ha10_26
  have ha11_27 : gt h_27 (h.1 + 11) = cA 3 10 (fun _ => 0) := (x4_27 _ (by omega)).trans ha11_26
  have ha12_27 : gt h_27 (h.1 + 12) = cA 0 7 (fun _ => 0) := (x4_27 _ (by omega)).trans ha12_26
  have hf_27 : ∀ B, B ≠ b → (B < h.1 ∨ h.1 + 15 ≤ B) → gt h_27 B = gt h B := fun B q1 q2 => (x4_27 B q1).trans (hf_26 B q1 q2)
  refine xh_pu (ls' := [vR b]) (st' := [vR b]) (dg dc165 57 rfl) rfl rfl ?_
  refine xh_pu (ls' := [vR b]) (st' := [vI 7, vR b]) (dg dc165 58 rfl) rfl rfl ?_
  refine xh_newa (n9 := 7) (dg dc165 59 rfl) rfl rfl (fun h_28 e_28 => ?_)
  obtain ⟨x1_28, x2_28, x3_28, x4_28⟩ := e_28
  have hn_28 : h_28.1 = h.1 + 14 := by rw [x1_28, hn_27]
  have hs_28 : h_28.2.1 = h.2.1 + 30619 := by rw [x2_28, hs_27]
  have hg_28 : gt h_28 b = cO 12 [vI 0, vR (h.1 + 0), vR (h.1 + 1), vR (h.1 + 2), vR (h.1 + 3), vI 0, vI 0, vR (h.1 + 4), vI 0, vI 0, vI 0, vI 0, vI 0, vI (-1), vR (h.1 + 5), vI 0, vR (h.1 + 6), vI 0, vI 0, vI 0, vI 0, vI 0, vI 0, vR (h.1 + 7), vR (h.1 + 8), vI 0, vR (h.1 + 9), vR (h.1 + 10), vR (h.1 + 11), vR (h.1 + 12), vN, vN] := (x4_28 b (by omega)).trans hg_27
  have ha0_28 : gt h_28 (h.1 + 0) = cA 0 1964 (fun _ => 0) := (x4_28 _ (by omega)).trans ha0_27
  have ha1_28 : gt h_28 (h.1 + 1) = cA 0 1115 (fun _ => 0) := (x4_28 _ (by omega)).trans ha1_27
  have ha2_28 : gt h_28 (h.1 + 2) = cA 0 1115 (fun _ => 0) := (x4_28 _ (by omega)).trans ha2_27
  have ha3_28 : gt h_28 (h.1 + 3) = cA 0 3192 (fun _ => 0) := (x4_28 _ (by omega)).trans ha3_27
  have ha4_28 : gt h_28 (h.1 + 4) = cA 2 400 (fun _ => 0) := (x4_28 _ (by omega)).trans ha4_27
  have ha5_28 : gt h_28 (h.1 + 5) = cA 0 5 (fun _ => 0) := (x4_28 _ (by omega)).trans ha5_27
  have ha6_28 : gt h_28 (h.1 + 6) = cA 0 400 (fun _ => 0) := (x4_28 _ (by omega)).trans ha6_27
  have ha7_28 : gt h_28 (h.1 + 7) = cA 1 6000 (fun _ => 0) := (x4_28 _ (by omega)).trans ha7_27
  have ha8_28 : gt h_28 (h.1 + 8) = cA 0 16384 (fun _ => 0) := (x4_28 _ (by omega)).trans ha8_27
  have ha9_28 : gt h_28 (h.1 + 9) = cA 0 10 (fun _ => 0) := (x4_28 _ (by omega)).trans ha9_27
  have ha10_28 : gt h_28 (h.1 + 10) = cA 0 10 (fun _ => 0) := (x4_28 _ (by omega)).trans ha10_27
  have ha11_28 : gt h_28 (h.1 + 11) = cA 3 10 (fun _ => 0) := (x4_28 _ (by omega)).trans ha11_27
  have ha12_28 : gt h_28 (h.1 + 12) = cA 0 7 (fun _ => 0) := (x4_28 _ (by omega)).trans ha12_27
  have ha13_28 : gt h_28 (h.1 + 13) = cA 0 7 (fun _ => 0) := by rw [← hn_27]; exact x3_28
  have hf_28 : ∀ B, B ≠ b → (B < h.1 ∨ h.1 + 15 ≤ B) → gt h_28 B = gt h B := fun B q1 q2 => (x4_28 B (by omega)).trans (hf_27 B q1 q2)
  rw [show h_27.1 = h.1 + 13 from hn_27]
  refine xh_put (dg dc165 60 rfl) rfl (by omega) hg_28 rfl rfl (fun h_29 e_29 => ?_)
  obtain ⟨x1_29, x2_29, x3_29, x4_29⟩ := e_29
  have hn_29 : h_29.1 = h.1 + 14 := by rw [x1_29, hn_28]
  have hs_29 : h_29.2.1 = h.2.1 + 30619 := by rw [x2_29, hs_28]
  have hg_29 : gt h_29 b = cO 12 [vI 0, vR (h.1 + 0), vR (h.1 + 1), vR (h.1 + 2), vR (h.1 + 3), vI 0, vI 0, vR (h.1 + 4), vI 0, vI 0, vI 0, vI 0, vI 0, vI (-1), vR (h.1 + 5), vI 0, vR (h.1 + 6), vI 0, vI 0, vI 0, vI 0, vI 0, vI 0, vR (h.1 + 7), vR (h.1 + 8), vI 0, vR (h.1 + 9), vR (h.1 + 10), vR (h.1 + 11), vR (h.1 + 12), vR (h.1 + 13), vN] := x3_29
  have ha0_29 : gt h_29 (h.1 + 0) = cA 0 1964 (fun _ => 0) := (x4_29 _ (by omega)).trans ha0_28
  have ha1_29 : gt h_29 (h.1 + 1) = cA 0 1115 (fun _ => 0) := (x4_29 _ (by omega)).trans ha1_28
  have ha2_29 : gt h_29 (h.1 + 2) = cA 0 1115 (fun _ => 0) := (x4_29 _ (by omega)).trans ha2_28
  have ha3_29 : gt h_29 (h.1 + 3) = cA 0 3192 (fun _ => 0) := (x4_29 _ (by omega)).trans ha3_28
  have ha4_29 : gt h_29 (h.1 + 4) = cA 2 400 (fun _ => 0) := (x4_29 _ (by omega)).trans ha4_28
  have ha5_29 : gt h_29 (h.1 + 5) = cA 0 5 (fun _ => 0) := (x4_29 _ (by omega)).trans ha5_28
  have ha6_29 : gt h_29 (h.1 + 6) = cA 0 400 (fun _ => 0) := (x4_29 _ (by omega)).trans ha6_28
  have ha7_29 : gt h_29 (h.1 + 7) = cA 1 6000 (fun _ => 0) := (x4_29 _ (by omega)).trans ha7_28
  have ha8_29 : gt h_29 (h.1 + 8) = cA 0 16384 (fun _ => 0) := (x4_29 _ (by omega)).trans ha8_28
  have ha9_29 : gt h_29 (h.1 + 9) = cA 0 10 (fun _ => 0) := (x4_29 _ (by omega)).trans ha9_28
  have ha10_29 : gt h_29 (h.1 + 10) = cA 0 10 (fun _ => 0) := (x4_29 _ (by omega)).trans ha10_28
  have ha11_29 : gt h_29 (h.1 + 11) = cA 3 10 (fun _ => 0) := (x4_29 _ (by omega)).trans ha11_28
  have ha12_29 : gt h_29 (h.1 + 12) = cA 0 7 (fun _ => 0) := (x4_29 _ (by omega)).trans ha12_28
  have ha13_29 : gt h_29 (h.1 + 13) = cA 0 7 (fun _ => 0) := (x4_29 _ (by omega)).trans ha13_28
  have hf_29 : ∀ B, B ≠ b → (B < h.1 ∨ h.1 + 15 ≤ B) → gt h_29 B = gt h B := fun B q1 q2 => (x4_29 B q1).trans (hf_28 B q1 q2)
  refine xh_pu (ls' := [vR b]) (st' := [vR b]) (dg dc165 61 rfl) rfl rfl ?_
  refine xh_pu (ls' := [vR b]) (st' := [vI 1024, vR b]) (dg dc165 62 rfl) rfl rfl ?_
  refine xh_newa (n9 := 1024) (dg dc165 63 rfl) rfl rfl (fun h_30 e_30 => ?_)
  obtain ⟨x1_30, x2_30, x3_30, x4_30⟩ := e_30
  have hn_30 : h_30.1 = h.1 + 15 := by rw [x1_30, hn_29]
  have hs_30 : h_30.2.1 = h.2.1 + 31643 := by rw [x2_30, hs_29]
  have hg_30 : gt h_30 b = cO 12 [vI 0, vR (h.1 + 0), vR (h.1 + 1), vR (h.1 + 2), vR (h.1 + 3), vI 0, vI 0, vR (h.1 + 4), vI 0, vI 0, vI 0, vI 0, vI 0, vI (-1), vR (h.1 + 5), vI 0, vR (h.1 + 6), vI 0, vI 0, vI 0, vI 0, vI 0, vI 0, vR (h.1 + 7), vR (h.1 + 8), vI 0, vR (h.1 + 9), vR (h.1 + 10), vR (h.1 + 11), vR (h.1 + 12), vR (h.1 + 13), vN] := (x4_30 b (by omega)).trans hg_29
  have ha0_30 : gt h_30 (h.1 + 0) = cA 0 1964 (fun _ => 0) := (x4_30 _ (by omega)).trans ha0_29
  have ha1_30 : gt h_30 (h.1 + 1) = cA 0 1115 (fun _ => 0) := (x4_30 _ (by omega)).trans ha1_29
  have ha2_30 : gt h_30 (h.1 + 2) = cA 0 1115 (fun _ => 0) := (x4_30 _ (by omega)).trans ha2_29
  have ha3_30 : gt h_30 (h.1 + 3) = cA 0 3192 (fun _ => 0) := (x4_30 _ (by omega)).trans ha3_29
  have ha4_30 : gt h_30 (h.1 + 4) = cA 2 400 (fun _ => 0) := (x4_30 _ (by omega)).trans ha4_29
  have ha5_30 : gt h_30 (h.1 + 5) = cA 0 5 (fun _ => 0) := (x4_30 _ (by omega)).trans ha5_29
  have ha6_30 : gt h_30 (h.1 + 6) = cA 0 400 (fun _ => 0) := (x4_30 _ (by omega)).trans ha6_29
  have ha7_30 : gt h_30 (h.1 + 7) = cA 1 6000 (fun _ => 0) := (x4_30 _ (by omega)).trans ha7_29
  have ha8_30 : gt h_30 (h.1 + 8) = cA 0 16384 (fun _ => 0) := (x4_30 _ (by omega)).trans ha8_29
  have ha9_30 : gt h_30 (h.1 + 9) = cA 0 10 (fun _ => 0) := (x4_30 _ (by omega)).trans ha9_29
  have ha10_30 : gt h_30 (h.1 + 10) = cA 0 10 (fun _ => 0) := (x4_30 _ (by omega)).trans ha10_29
  have ha11_30 : gt h_30 (h.1 + 11) = cA 3 10 (fun _ => 0) := (x4_30 _ (by omega)).trans ha11_29
  have ha12_30 : gt h_30 (h.1 + 12) = cA 0 7 (fun _ => 0) := (x4_30 _ (by omega)).trans ha12_29
  have ha13_30 : gt h_30 (h.1 + 13) = cA 0 7 (fun _ => 0) := (x4_30 _ (by omega)).trans ha13_29
  have ha14_30 : gt h_30 (h.1 + 14) = cA 0 1024 (fun _ => 0) := by rw [← hn_29]; exact x3_30
  have hf_30 : ∀ B, B ≠ b → (B < h.1 ∨ h.1 + 15 ≤ B) → gt h_30 B = gt h B := fun B q1 q2 => (x4_30 B (by omega)).trans (hf_29 B q1 q2)
  rw [show h_29.1 = h.1 + 14 from hn_29]
  refine xh_put (dg dc165 64 rfl) rfl (by omega) hg_30 rfl rfl (fun h_31 e_31 => ?_)
  obtain ⟨x1_31, x2_31, x3_31, x4_31⟩ := e_31
  have hn_31 : h_31.1 = h.1 + 15 := by rw [x1_31, hn_30]
  have hs_31 : h_31.2.1 = h.2.1 + 31643 := by rw [x2_31, hs_30]
  have hg_31 : gt h_31 b = cO 12 [vI 0, vR (h.1 + 0), vR (h.1 + 1), vR (h.1 + 2), vR (h.1 + 3), vI 0, vI 0, vR (h.1 + 4), vI 0, vI 0, vI 0, vI 0, vI 0, vI (-1), vR (h.1 + 5), vI 0, vR (h.1 + 6), vI 0, vI 0, vI 0, vI 0, vI 0, vI 0, vR (h.1 + 7), vR (h.1 + 8), vI 0, vR (h.1 + 9), vR (h.1 + 10), vR (h.1 + 11), vR (h.1 + 12), vR (h.1 + 13), vR (h.1 + 14)] := x3_31
  have ha0_31 : gt h_31 (h.1 + 0) = cA 0 1964 (fun _ => 0) := (x4_31 _ (by omega)).trans ha0_30
  have ha1_31 : gt h_31 (h.1 + 1) = cA 0 1115 (fun _ => 0) := (x4_31 _ (by omega)).trans ha1_30
  have ha2_31 : gt h_31 (h.1 + 2) = cA 0 1115 (fun _ => 0) := (x4_31 _ (by omega)).trans ha2_30
  have ha3_31 : gt h_31 (h.1 + 3) = cA 0 3192 (fun _ => 0) := (x4_31 _ (by omega)).trans ha3_30
  have ha4_31 : gt h_31 (h.1 + 4) = cA 2 400 (fun _ => 0) := (x4_31 _ (by omega)).trans ha4_30
  have ha5_31 : gt h_31 (h.1 + 5) = cA 0 5 (fun _ => 0) := (x4_31 _ (by omega)).trans ha5_30
  have ha6_31 : gt h_31 (h.1 + 6) = cA 0 400 (fun _ => 0) := (x4_31 _ (by omega)).trans ha6_30
  have ha7_31 : gt h_31 (h.1 + 7) = cA 1 6000 (fun _ => 0) := (x4_31 _ (by omega)).trans ha7_30
  have ha8_31 : gt h_31 (h.1 + 8) = cA 0 16384 (fun _ => 0) := (x4_31 _ (by omega)).trans ha8_30
  have ha9_31 : gt h_31 (h.1 + 9) = cA 0 10 (fun _ => 0) := (x4_31 _ (by omega)).trans ha9_30
  have ha10_31 : gt h_31 (h.1 + 10) = cA 0 10 (fun _ => 0) := (x4_31 _ (by omega)).trans ha10_30
  have ha11_31 : gt h_31 (h.1 + 11) = cA 3 10 (fun _ => 0) := (x4_31 _ (by omega)).trans ha11_30
  have ha12_31 : gt h_31 (h.1 + 12) = cA 0 7 (fun _ => 0) := (x4_31 _ (by omega)).trans ha12_30
  have ha13_31 : gt h_31 (h.1 + 13) = cA 0 7 (fun _ => 0) := (x4_31 _ (by omega)).trans ha13_30
  have ha14_31 : gt h_31 (h.1 + 14) = cA 0 1024 (fun _ => 0) := (x4_31 _ (by omega)).trans ha14_30
  have hf_31 : ∀ B, B ≠ b → (B < h.1 ∨ h.1 + 15 ≤ B) → gt h_31 B = gt h B := fun B q1 q2 => (x4_31 B q1).trans (hf_30 B q1 q2)
  refine xh_pu (ls' := [vR b]) (st' := [vR b]) (dg dc165 65 rfl) rfl rfl ?_
  refine xh_get (v := vR (h.1 + 0)) (dg dc165 66 rfl) rfl (by omega) hg_31 rfl ?_
  refine xh_pu (ls' := [vR b]) (st' := [vI 8, vR (h.1 + 0)]) (dg dc165 67 rfl) rfl rfl ?_
  refine xh_pu (ls' := [vR b]) (st' := [vI (-1), vI 8, vR (h.1 + 0)]) (dg dc165 68 rfl) rfl rfl ?_
  refine xh_iast (n9 := 1964) (f9 := fun _ => 0) (dg dc165 69 rfl) (by omega) ha0_31 rfl (by decide) (fun h_32 e_32 => ?_)
  obtain ⟨x1_32, x2_32, x3_32, x4_32⟩ := e_32
  have hn_32 : h_32.1 = h.1 + 15 := by rw [x1_32, hn_31]
  have hs_32 : h_32.2.1 = h.2.1 + 31643 := by rw [x2_32, hs_31]
  have hg_32 : gt h_32 b = cO 12 [vI 0, vR (h.1 + 0), vR (h.1 + 1), vR (h.1 + 2), vR (h.1 + 3), vI 0, vI 0, vR (h.1 + 4), vI 0, vI 0, vI 0, vI 0, vI 0, vI (-1), vR (h.1 + 5), vI 0, vR (h.1 + 6), vI 0, vI 0, vI 0, vI 0, vI 0, vI 0, vR (h.1 + 7), vR (h.1 + 8), vI 0, vR (h.1 + 9), vR (h.1 + 10), vR (h.1 + 11), vR (h.1 + 12), vR (h.1 + 13), vR (h.1 + 14)] := (x4_32 b (by omega)).trans hg_31
  have ha0_32 : gt h_32 (h.1 + 0) = cA 0 1964 (up (fun _ => 0) (8 : Int).toNat ((-1))) := x3_32
  have ha1_32 : gt h_32 (h.1 + 1) = cA 0 1115 (fun _ => 0) := (x4_32 _ (by omega)).trans ha1_31
  have ha2_32 : gt h_32 (h.1 + 2) = cA 0 1115 (fun _ => 0) := (x4_32 _ (by omega)).trans ha2_31
  have ha3_32 : gt h_32 (h.1 + 3) = cA 0 3192 (fun _ => 0) := (x4_32 _ (by omega)).trans ha3_31
  have ha4_32 : gt h_32 (h.1 + 4) = cA 2 400 (fun _ => 0) := (x4_32 _ (by omega)).trans ha4_31
  have ha5_32 : gt h_32 (h.1 + 5) = cA 0 5 (fun _ => 0) := (x4_32 _ (by omega)).trans ha5_31
  have ha6_32 : gt h_32 (h.1 + 6) = cA 0 400 (fun _ => 0) := (x4_32 _ (by omega)).trans ha6_31
  have ha7_32 : gt h_32 (h.1 + 7) = cA 1 6000 (fun _ => 0) := (x4_32 _ (by omega)).trans ha7_31
  have ha8_32 : gt h_32 (h.1 + 8) = cA 0 16384 (fun _ => 0) := (x4_32 _ (by omega)).trans ha8_31
  have ha9_32 : gt h_32 (h.1 + 9) = cA 0 10 (fun _ => 0) := (x4_32 _ (by omega)).trans ha9_31
  have ha10_32 : gt h_32 (h.1 + 10) = cA 0 10 (fun _ => 0) := (x4_32 _ (by omega)).trans ha10_31
  have ha11_32 : gt h_32 (h.1 + 11) = cA 3 10 (fun _ => 0) := (x4_32 _ (by omega)).trans ha11_31
  have ha12_32 : gt h_32 (h.1 + 12) = cA 0 7 (fun _ => 0) := (x4_32 _ (by omega)).trans ha12_31
  have ha13_32 : gt h_32 (h.1 + 13) = cA 0 7 (fun _ => 0) := (x4_32 _ (by omega)).trans ha13_31
  have ha14_32 : gt h_32 (h.1 + 14) = cA 0 1024 (fun _ => 0) := (x4_32 _ (by omega)).trans ha14_31
  have hf_32 : ∀ B, B ≠ b → (B < h.1 ∨ h.1 + 15 ≤ B) → gt h_32 B = gt h B := fun B q1 q2 => (x4_32 B (by omega)).trans (hf_31 B q1 q2)
  exact xh_vre (dg dc165 70 rfl) rfl ⟨rfl, hn_32, hs_32, hg_32, ha0_32, ha1_32, ha2_32, ha3_32, ha4_32, ha5_32, ha6_32, ha7_32, ha8_32, ha9_32, ha10_32, ha11_32, ha12_32, ha13_32, ha14_32, hf_32⟩
