/-! ===== RULES: fields, rows of numbers, calls, ends, throws ===== -/
def inB (i : Int) (n : Nat) : Bool := decide (0 ≤ i) && decide (i < (n : Int))
def zo (z : Int) : Bool := decide (z = 0 ∨ z = 1)
def nz (z : Int) : Bool := decide (¬ w32 z = 0)
def imax (a b : Int) : Int := if w32 a < w32 b then b else a
def imin (a b : Int) : Int := if w32 b < w32 a then b else a
abbrev OR : Type := Option (AR × MM)
abbrev rI (z : Int) : AR := .inl (some (vI z))
abbrev rJ (z : Int) : AR := .inl (some (vJ z))
abbrev rV : AR := .inl none
/-- an exception of the class c that is thrown here; one that goes on -/
def thx (c : Nat) (M : MM) : OR := if 0 ≤ M 999 0 ∧ M 999 0 < 100000 then some (.inr c, mU M 999 0 (M 999 0 + 1)) else none
def tx (c : Nat) (M : MM) : OR := bif decide (13 ≤ c) && decide (c < 18) then some (.inr c, M) else none
def bI (x : OR) (k : Int → MM → OR) : OR := match x with
  | some (.inl (some (.inl z)), M) => k z M
  | some (.inr c, M) => tx c M
  | _ => none
def bJ (x : OR) (k : Int → MM → OR) : OR := match x with
  | some (.inl (some (.inr (.inl z))), M) => k z M
  | some (.inr c, M) => tx c M
  | _ => none
def bV (x : OR) (k : MM → OR) : OR := match x with
  | some (.inl none, M) => k M
  | some (.inr c, M) => tx c M
  | _ => none
/-- a call whose exceptions are looked at -/
def bH (x : OR) (k : Int → MM → OR) (e : Nat → MM → OR) : OR := match x with
  | some (.inl (some (.inl z)), M) => k z M
  | some (.inr c, M) => e c M
  | _ => none
theorem inB_ok {i : Int} {n : Nat} (h : inB i n = true) : 0 ≤ i ∧ i.toNat < n := by
  unfold inB at h
  simp only [Bool.and_eq_true, decide_eq_true_eq] at h
  omega
section HpRows
variable {Z : Nat × (Nat → Int)} {d m pc : Nat} {ls st : List AV} {M : MM} {res : AR × MM} {A a x c k n j b y kd N : Nat} {cs : List (Nat × Nat)} {z : Int} {T9 : OR}
theorem hget_S {h : AH} {s : Nat × Nat} (hR : Rep Z M h) (hL : LOC M A a (2, c, n, cs)) (hk : cs[k]? = some s) : hGet c k (vR A :: st) h = some (slv M A a k s :: st, h) := by
  have hg : gt h A = cO c (cs.zipIdx.map fun q => slv M A a q.2 q.1) := hR.1 _ _ _ hL
  show (if A < h.1 ∨ E0 ≤ A then (match gt h A with
    | .inr (.inr (c', fs)) => if c' = c then (match fs[k]? with
      | some v => some (v :: st, h)
      | none => none) else none
    | _ => none) else none) = _
  rw [if_pos (Or.inl (hR.lt hL)), hg]
  show (if c = c then (match (cs.zipIdx.map fun q => slv M A a q.2 q.1)[k]? with
      | some v => some (v :: st, h)
      | none => none) else none) = _
  rw [if_pos rfl, cel_fld hk]
theorem ex_get {s : Nat × Nat} (hd : decode (mC m) pc = .ok (.getfield x, 3)) (hp : pl (mK m) x = (0, c, k, z)) (hL : LOC M A a (2, c, n, cs)) (hk : cs[k]? = some s) (kk : EX Z d m (pc + 3) ls (slv M A a k s :: st) M res) : EX Z d m pc ls (vR A :: st) M res := by
  refine EX.same (fun _ h hR => ex1_hp hd rfl rfl rfl ?_) kk
  show (match pl (mK m) x with
    | (0, c, k, _) => hGet c k (vR A :: st) h
    | _ => none) = _
  rw [hp]
  exact hget_S hR hL hk
theorem ex_getI (hd : decode (mC m) pc = .ok (.getfield x, 3)) (hp : pl (mK m) x = (0, c, k, z)) (hL : LOC M A a (2, c, n, cs)) (hk : cs[k]? = some (0, 0)) (kk : EX Z d m (pc + 3) ls (vI (M a k) :: st) M res) : EX Z d m pc ls (vR A :: st) M res := ex_get hd hp hL hk kk
theorem ex_getO (hd : decode (mC m) pc = .ok (.getfield x, 3)) (hp : pl (mK m) x = (0, c, k, z)) (hL : LOC M A a (2, c, n, cs)) (hk : cs[k]? = some (3, j)) (kk : EX Z d m (pc + 3) ls (vR (A + j) :: st) M res) : EX Z d m pc ls (vR A :: st) M res := ex_get hd hp hL hk kk
theorem ex_getF (hd : decode (mC m) pc = .ok (.getfield x, 3)) (hp : pl (mK m) x = (0, c, k, z)) (hL : LOC M A a (2, c, n, cs)) (hk : cs[k]? = some (4, j)) (kk : EX Z d m (pc + 3) ls (vR j :: st) M res) : EX Z d m pc ls (vR A :: st) M res := ex_get hd hp hL hk kk
theorem hput_S {h : AH} {v : Int} (hR : Rep Z M h) (hL : LOC M A a (2, c, n, cs)) (hk : cs[k]? = some (0, 0)) (hok : fok m c k (vI v) = true) : ∃ h1, hPut m c k (vI v :: vR A :: st) h = some (st, h1) ∧ h1 = sv h A (celS (mU M a k v) A a (2, c, n, cs)) := by
  have hg : gt h A = cO c (cs.zipIdx.map fun q => slv M A a q.2 q.1) := hR.1 _ _ _ hL
  refine ⟨_, ?_, rfl⟩
  show (if A < h.1 ∧ fok m c k (vI v) = true then (match gt h A with
    | .inr (.inr (c', fs)) => if c' = c ∧ k < fs.length then some (st, sv h A (.inr (.inr (c', fs.set k (vI v))))) else none
    | _ => none) else none) = _
  rw [if_pos ⟨hR.lt hL, hok⟩, hg]
  show (if c = c ∧ k < (cs.zipIdx.map fun q => slv M A a q.2 q.1).length then some (st, sv h A (cO c ((cs.zipIdx.map fun q => slv M A a q.2 q.1).set k (vI v)))) else none) = _
  rw [if_pos ⟨rfl, by rw [List.length_map, List.length_zipIdx]; exact (List.getElem?_eq_some_iff.mp hk).1⟩, cel_set (n := n) hk]
theorem ex_putI {v : Int} (hd : decode (mC m) pc = .ok (.putfield x, 3)) (hp : pl (mK m) x = (0, c, k, z)) (hL : LOC M A a (2, c, n, cs)) (hk : cs[k]? = some (0, 0)) (hok : fok m c k (vI v) = true) (h17 : mU M a k v 0 17 = M 0 17) (kk : EX Z d m (pc + 3) ls st (mU M a k v) res) : EX Z d m pc ls (vI v :: vR A :: st) M res := by
  refine EX.go (fun _ => h17) (fun h hR => ?_) kk
  obtain ⟨h1, e1, e2⟩ := hput_S (st := st) hR hL hk hok
  refine ⟨h1, by rw [e2]; exact hR.put hL (fun b hb => mU_ne hb) h17 rfl, fun _ => ex1_hp hd rfl rfl rfl ?_⟩
  show (match pl (mK m) x with
    | (0, c, k, _) => hPut m c k (vI v :: vR A :: st) h
    | _ => none) = _
  rw [hp]
  exact e1
theorem ex_putB {v : Int} (hd : decode (mC m) pc = .ok (.putfield x, 3)) (hp : pl (mK m) x = (0, c, k, z)) (hL : LOC M A a (2, c, n, cs)) (hk : cs[k]? = some (0, 0)) (hok : fok m c k (vI v) = zo v) (h17 : mU M a k v 0 17 = M 0 17) (hf : (bif zo v then T9 else none) = some res) (kk : T9 = some res → EX Z d m (pc + 3) ls st (mU M a k v) res) : EX Z d m pc ls (vI v :: vR A :: st) M res := by
  cases hz : zo v with
  | false => rw [hz] at hf; cases hf
  | true =>
    rw [hz] at hf
    exact ex_putI hd hp hL hk (hok.trans hz) h17 (kk hf)
-- rows of numbers
theorem hld_S {h : AH} {kq : Nat} {i : Int} (hR : Rep Z M h) (hL : LOC M A a (0, kq, n, cs)) (hn : n < 2147483648) (hi : inB i n = true) : hLd kq (vI i :: vR A :: st) h = some ((if kq = 1 then vJ (M a i.toNat) else vI (M a i.toNat)) :: st, h) := by
  have hg : gt h A = cA kq n (M a) := hR.1 _ _ _ hL
  obtain ⟨i0, i1⟩ := inB_ok hi
  show (if A < h.1 ∨ E0 ≤ A then (match gt h A with
    | .inl (k9, n9, f) => if k9 = kq ∧ 0 ≤ i ∧ i.toNat < n9 ∧ n9 < 2147483648 then some ((if kq = 1 then vJ (f i.toNat) else vI (f i.toNat)) :: st, h) else none
    | _ => none) else none) = _
  rw [if_pos (Or.inl (hR.lt hL)), hg]
  show (if kq = kq ∧ 0 ≤ i ∧ i.toNat < n ∧ n < 2147483648 then some ((if kq = 1 then vJ (M a i.toNat) else vI (M a i.toNat)) :: st, h) else none) = _
  rw [if_pos ⟨rfl, i0, i1, hn⟩]
theorem gd {b9 : Bool} (hf : (bif b9 then T9 else none) = some res) : b9 = true ∧ T9 = some res := by
  cases b9 with
  | false => cases hf
  | true => exact ⟨rfl, hf⟩
theorem ex_iald {i : Int} (hd : decode (mC m) pc = .ok (.iaload, 1)) (hL : LOC M A a (0, 0, n, cs)) (hn : n.blt 2147483648 = true) (hf : (bif inB i n then T9 else none) = some res) (kk : inB i n = true → T9 = some res → EX Z d m (pc + 1) ls (vI (M a i.toNat) :: st) M res) : EX Z d m pc ls (vI i :: vR A :: st) M res :=
  EX.same (fun _ _ hR => ex1_hp hd rfl rfl rfl (hld_S hR hL (Nat.le_of_ble_eq_true hn) (gd hf).1)) (kk (gd hf).1 (gd hf).2)
theorem ex_lald {i : Int} (hd : decode (mC m) pc = .ok (.laload, 1)) (hL : LOC M A a (0, 1, n, cs)) (hn : n.blt 2147483648 = true) (hf : (bif inB i n then T9 else none) = some res) (kk : inB i n = true → T9 = some res → EX Z d m (pc + 1) ls (vJ (M a i.toNat) :: st) M res) : EX Z d m pc ls (vI i :: vR A :: st) M res :=
  EX.same (fun _ _ hR => ex1_hp hd rfl rfl rfl (hld_S hR hL (Nat.le_of_ble_eq_true hn) (gd hf).1)) (kk (gd hf).1 (gd hf).2)
theorem ex_bald {i : Int} (hd : decode (mC m) pc = .ok (.baload, 1)) (hL : LOC M A a (0, 2, n, cs)) (hn : n.blt 2147483648 = true) (hf : (bif inB i n then T9 else none) = some res) (kk : inB i n = true → T9 = some res → EX Z d m (pc + 1) ls (vI (M a i.toNat) :: st) M res) : EX Z d m pc ls (vI i :: vR A :: st) M res := by
  refine EX.same (fun _ h hR => ex1_hp (h' := h) (st' := vI (M a i.toNat) :: st) hd rfl rfl rfl ?_) (kk (gd hf).1 (gd hf).2)
  have hg : gt h A = cA 2 n (M a) := hR.1 _ _ _ hL
  show (match gt h A with
    | .inl (2, _, _) => hLd 2 (vI i :: vR A :: st) h
    | .inl (3, _, _) => if A < h.1 then hLd 3 (vI i :: vR A :: st) h else none
    | _ => none) = _
  rw [hg]
  exact hld_S hR hL (Nat.le_of_ble_eq_true hn) (gd hf).1
theorem ex_zald {i : Int} (hd : decode (mC m) pc = .ok (.baload, 1)) (hL : LOC M A a (0, 3, n, cs)) (hn : n.blt 2147483648 = true) (hf : (bif inB i n then T9 else none) = some res) (kk : inB i n = true → T9 = some res → EX Z d m (pc + 1) ls (vI (M a i.toNat) :: st) M res) : EX Z d m pc ls (vI i :: vR A :: st) M res := by
  refine EX.same (fun _ h hR => ex1_hp (h' := h) (st' := vI (M a i.toNat) :: st) hd rfl rfl rfl ?_) (kk (gd hf).1 (gd hf).2)
  have hg : gt h A = cA 3 n (M a) := hR.1 _ _ _ hL
  show (match gt h A with
    | .inl (2, _, _) => hLd 2 (vI i :: vR A :: st) h
    | .inl (3, _, _) => if A < h.1 then hLd 3 (vI i :: vR A :: st) h else none
    | _ => none) = _
  rw [hg]
  show (if A < h.1 then hLd 3 (vI i :: vR A :: st) h else none) = _
  rw [if_pos (hR.lt hL)]
  exact hld_S hR hL (Nat.le_of_ble_eq_true hn) (gd hf).1
theorem hst_S {h : AH} {kq : Nat} {i v w : Int} {nw : Int → Int} (hw : w = nw v) (hR : Rep Z M h) (hL : LOC M A a (0, kq, n, cs)) (hn : n < 2147483648) (hi : inB i n = true) : hSt kq nw (vI v :: vI i :: vR A :: st) h = some (st, sv h A (celS (mU M a i.toNat w) A a (0, kq, n, cs))) := by
  have hg : gt h A = cA kq n (M a) := hR.1 _ _ _ hL
  obtain ⟨i0, i1⟩ := inB_ok hi
  show (if A < h.1 then (match gt h A with
    | .inl (k9, n9, f) => if k9 = kq ∧ 0 ≤ i ∧ i.toNat < n9 ∧ n9 < 2147483648 then some (st, sv h A (.inl (k9, n9, up f i.toNat (nw v)))) else none
    | _ => none) else none) = _
  rw [if_pos (hR.lt hL), hg]
  show (if kq = kq ∧ 0 ≤ i ∧ i.toNat < n ∧ n < 2147483648 then some (st, sv h A (cA kq n (up (M a) i.toNat (nw v)))) else none) = _
  rw [if_pos ⟨rfl, i0, i1, hn⟩, ← hw]
  show _ = some (st, sv h A (cA kq n (mU M a i.toNat w a)))
  rw [mU_eq]
theorem ex_iast {i v : Int} (hd : decode (mC m) pc = .ok (.iastore, 1)) (hL : LOC M A a (0, 0, n, cs)) (hn : n.blt 2147483648 = true) (h17 : mU M a i.toNat v 0 17 = M 0 17) (hf : (bif inB i n then T9 else none) = some res) (kk : inB i n = true → T9 = some res → EX Z d m (pc + 1) ls st (mU M a i.toNat v) res) : EX Z d m pc ls (vI v :: vI i :: vR A :: st) M res :=
  EX.go (fun _ => h17) (fun _ hR => ⟨_, hR.put hL (fun b hb => mU_ne hb) h17 rfl, fun _ => ex1_hp hd rfl rfl rfl (hst_S (nw := fun z => z) (w := v) (v := v) rfl hR hL (Nat.le_of_ble_eq_true hn) (gd hf).1)⟩) (kk (gd hf).1 (gd hf).2)
theorem ex_bast {i v : Int} (hd : decode (mC m) pc = .ok (.bastore, 1)) (hL : LOC M A a (0, 2, n, cs)) (hn : n.blt 2147483648 = true) (h17 : mU M a i.toNat (nB v) 0 17 = M 0 17) (hf : (bif inB i n then T9 else none) = some res) (kk : inB i n = true → T9 = some res → EX Z d m (pc + 1) ls st (mU M a i.toNat (nB v)) res) : EX Z d m pc ls (vI v :: vI i :: vR A :: st) M res := by
  refine EX.go (fun _ => h17) (fun h hR => ⟨_, hR.put hL (fun b hb => mU_ne hb) h17 rfl, fun _ => ex1_hp hd rfl rfl rfl ?_⟩) (kk (gd hf).1 (gd hf).2)
  have hg : gt h A = cA 2 n (M a) := hR.1 _ _ _ hL
  show (match gt h A with
    | .inl (2, _, _) => hSt 2 nB (vI v :: vI i :: vR A :: st) h
    | .inl (3, _, _) => hSt 3 nZ (vI v :: vI i :: vR A :: st) h
    | _ => none) = _
  rw [hg]
  exact hst_S rfl hR hL (Nat.le_of_ble_eq_true hn) (gd hf).1
theorem ex_zast {i v : Int} (hd : decode (mC m) pc = .ok (.bastore, 1)) (hL : LOC M A a (0, 3, n, cs)) (hn : n.blt 2147483648 = true) (h17 : mU M a i.toNat (nZ v) 0 17 = M 0 17) (hf : (bif inB i n then T9 else none) = some res) (kk : inB i n = true → T9 = some res → EX Z d m (pc + 1) ls st (mU M a i.toNat (nZ v)) res) : EX Z d m pc ls (vI v :: vI i :: vR A :: st) M res := by
  refine EX.go (fun _ => h17) (fun h hR => ⟨_, hR.put hL (fun b hb => mU_ne hb) h17 rfl, fun _ => ex1_hp hd rfl rfl rfl ?_⟩) (kk (gd hf).1 (gd hf).2)
  have hg : gt h A = cA 3 n (M a) := hR.1 _ _ _ hL
  show (match gt h A with
    | .inl (2, _, _) => hSt 2 nB (vI v :: vI i :: vR A :: st) h
    | .inl (3, _, _) => hSt 3 nZ (vI v :: vI i :: vR A :: st) h
    | _ => none) = _
  rw [hg]
  exact hst_S rfl hR hL (Nat.le_of_ble_eq_true hn) (gd hf).1
theorem ex_last {i v : Int} (hd : decode (mC m) pc = .ok (.lastore, 1)) (hL : LOC M A a (0, 1, n, cs)) (hn : n.blt 2147483648 = true) (h17 : mU M a i.toNat v 0 17 = M 0 17) (hf : (bif inB i n then T9 else none) = some res) (kk : inB i n = true → T9 = some res → EX Z d m (pc + 1) ls st (mU M a i.toNat v) res) : EX Z d m pc ls (vJ v :: vI i :: vR A :: st) M res := by
  refine EX.go (fun _ => h17) (fun h hR => ⟨_, hR.put hL (fun b hb => mU_ne hb) h17 rfl, fun _ => ex1_hp hd rfl rfl rfl ?_⟩) (kk (gd hf).1 (gd hf).2)
  have hg : gt h A = cA 1 n (M a) := hR.1 _ _ _ hL
  obtain ⟨i0, i1⟩ := inB_ok (gd hf).1
  show (if A < h.1 then (match gt h A with
    | .inl (k9, n9, f) => if k9 = 1 ∧ 0 ≤ i ∧ i.toNat < n9 ∧ n9 < 2147483648 then some (st, sv h A (.inl (k9, n9, up f i.toNat v))) else none
    | _ => none) else none) = _
  rw [if_pos (hR.lt hL), hg]
  show (if 1 = 1 ∧ 0 ≤ i ∧ i.toNat < n ∧ n < 2147483648 then some (st, sv h A (cA 1 n (up (M a) i.toNat v))) else none) = _
  rw [if_pos ⟨rfl, i0, i1, Nat.le_of_ble_eq_true hn⟩]
  show _ = some (st, sv h A (cA 1 n (mU M a i.toNat v a)))
  rw [mU_eq]
theorem ex_len {kq : Nat} (hd : decode (mC m) pc = .ok (.arraylength, 1)) (hL : LOC M A a (0, kq, n, cs)) (hn : n.blt 2147483648 = true) (hk : kq.blt 4 = true) (kk : EX Z d m (pc + 1) ls (vI n :: st) M res) : EX Z d m pc ls (vR A :: st) M res := by
  refine EX.same (fun _ h hR => ex1_hp hd rfl rfl rfl ?_) kk
  have hg : gt h A = cA kq n (M a) := hR.1 _ _ _ hL
  show (if A < h.1 ∨ E0 ≤ A then (match gt h A with
    | .inl (k9, n9, _) => if k9 < 4 ∧ n9 < 2147483648 then some (vI n9 :: st, h) else none
    | _ => none) else none) = _
  rw [if_pos (Or.inl (hR.lt hL)), hg]
  show (if kq < 4 ∧ n < 2147483648 then some (vI n :: st, h) else none) = _
  rw [if_pos ⟨Nat.le_of_ble_eq_true hk, Nat.le_of_ble_eq_true hn⟩]
-- the script
theorem ex_ialdS {i : Int} (hd : decode (mC m) pc = .ok (.iaload, 1)) (hn : Z.1 < 2147483648) (hf : (bif inB i Z.1 then T9 else none) = some res) (kk : inB i Z.1 = true → T9 = some res → EX Z d m (pc + 1) ls (vI (Z.2 i.toNat) :: st) M res) : EX Z d m pc ls (vI i :: vR E0 :: st) M res := by
  refine EX.same (fun _ h hR => ex1_hp (h' := h) (st' := vI (Z.2 i.toNat) :: st) hd rfl rfl rfl ?_) (kk (gd hf).1 (gd hf).2)
  have hg : gt h E0 = cA 0 Z.1 Z.2 := hR.2.2.2.2.2 E0 (Nat.le_refl _)
  obtain ⟨i0, i1⟩ := inB_ok (gd hf).1
  show (if E0 < h.1 ∨ E0 ≤ E0 then (match gt h E0 with
    | .inl (k9, n9, f) => if k9 = 0 ∧ 0 ≤ i ∧ i.toNat < n9 ∧ n9 < 2147483648 then some ((if 0 = 1 then vJ (f i.toNat) else vI (f i.toNat)) :: st, h) else none
    | _ => none) else none) = _
  rw [if_pos (Or.inr (Nat.le_refl _)), hg]
  show (if 0 = 0 ∧ 0 ≤ i ∧ i.toNat < Z.1 ∧ Z.1 < 2147483648 then some ((if 0 = 1 then vJ (Z.2 i.toNat) else vI (Z.2 i.toNat)) :: st, h) else none) = _
  rw [if_pos ⟨rfl, i0, i1, hn⟩]
  rfl
theorem ex_lenS (hd : decode (mC m) pc = .ok (.arraylength, 1)) (hn : Z.1 < 2147483648) (kk : EX Z d m (pc + 1) ls (vI Z.1 :: st) M res) : EX Z d m pc ls (vR E0 :: st) M res := by
  refine EX.same (fun _ h hR => ex1_hp (h' := h) (st' := vI Z.1 :: st) hd rfl rfl rfl ?_) kk
  have hg : gt h E0 = cA 0 Z.1 Z.2 := hR.2.2.2.2.2 E0 (Nat.le_refl _)
  show (if E0 < h.1 ∨ E0 ≤ E0 then (match gt h E0 with
    | .inl (k9, n9, _) => if k9 < 4 ∧ n9 < 2147483648 then some (vI n9 :: st, h) else none
    | _ => none) else none) = _
  rw [if_pos (Or.inr (Nat.le_refl _)), hg]
  show (if 0 < 4 ∧ Z.1 < 2147483648 then some (vI Z.1 :: st, h) else none) = _
  rw [if_pos ⟨by decide, hn⟩]
-- a row of objects
theorem ex_aald {i : Int} {f9 : Int → Nat} (hd : decode (mC m) pc = .ok (.aaload, 1)) (hL : LOC M A a (1, b, n, cs)) (hn : n.blt 2147483648 = true) (hel : ∀ i0 : Nat, i0 < n → (cs[i0]?).map (fun q => q.2) = some (f9 i0) ∧ f9 i0 < 182) (hf : (bif inB i n then T9 else none) = some res) (kk : inB i n = true → T9 = some res → EX Z d m (pc + 1) ls (vR (f9 i.toNat) :: st) M res) : EX Z d m pc ls (vI i :: vR A :: st) M res := by
  refine EX.same (fun _ h hR => ex1_hp (h' := h) (st' := vR (f9 i.toNat) :: st) hd rfl rfl rfl ?_) (kk (gd hf).1 (gd hf).2)
  have hg : gt h A = cQ n (fun j => (cs[j]?).map (fun q => q.2)) := hR.1 _ _ _ hL
  obtain ⟨i0, i1⟩ := inB_ok (gd hf).1
  obtain ⟨e1, e2⟩ := hel i.toNat i1
  show (if A < h.1 then (match gt h A with
    | .inr (.inl (n9, f)) => if 0 ≤ i ∧ i.toNat < n9 ∧ n9 < 2147483648 ∧ (∀ b, f i.toNat = some b → b < h.1) then some (.inr (.inr (.inl (f i.toNat))) :: st, h) else none
    | _ => none) else none) = _
  rw [if_pos (hR.lt hL), hg]
  show (if 0 ≤ i ∧ i.toNat < n ∧ n < 2147483648 ∧ (∀ b, (cs[i.toNat]?).map (fun q => q.2) = some b → b < h.1) then some (.inr (.inr (.inl ((cs[i.toNat]?).map (fun q => q.2)))) :: st, h) else none) = _
  rw [if_pos ⟨i0, i1, Nat.le_of_ble_eq_true hn, fun b9 hb => by
    have := hR.2.2.1
    rw [e1] at hb
    cases hb
    omega⟩, e1]
  rfl
-- constants
theorem ex_ldcI (hd : decode (mC m) pc = .ok (.ldc x, 2)) (hp : pl (mK m) x = (4, a, b, z)) (kk : EX Z d m (pc + 2) ls (vI z :: st) M res) : EX Z d m pc ls st M res := by
  refine EX.same (fun _ h hR => ex1_hp (h' := h) (st' := vI z :: st) hd rfl rfl rfl ?_) kk
  show hLdc false (pl (mK m) x) st h = _
  rw [hp]
  rfl
theorem ex_ldcT (hd : decode (mC m) pc = .ok (.ldc x, 2)) (hp : pl (mK m) x = (6, a, b, z)) (kk : EX Z d m (pc + 2) ls (vR (E0 + 2 + 2 * a) :: st) M res) : EX Z d m pc ls st M res := by
  refine EX.same (fun _ h hR => ex1_hp (h' := h) (st' := vR (E0 + 2 + 2 * a) :: st) hd rfl rfl rfl ?_) kk
  show hLdc false (pl (mK m) x) st h = _
  rw [hp]
  rfl
theorem ex_ldcW (hd : decode (mC m) pc = .ok (.ldc_w x, 3)) (hp : pl (mK m) x = (4, a, b, z)) (kk : EX Z d m (pc + 3) ls (vI z :: st) M res) : EX Z d m pc ls st M res := by
  refine EX.same (fun _ h hR => ex1_hp (h' := h) (st' := vI z :: st) hd rfl rfl rfl ?_) kk
  show hLdc true (pl (mK m) x) st h = _
  rw [hp]
  rfl
theorem ex_ldc2 (hd : decode (mC m) pc = .ok (.ldc2_w x, 3)) (hp : pl (mK m) x = (5, a, b, z)) (kk : EX Z d m (pc + 3) ls (vJ z :: st) M res) : EX Z d m pc ls st M res := by
  refine EX.same (fun _ h hR => ex1_hp (h' := h) (st' := vJ z :: st) hd rfl rfl rfl ?_) kk
  show (match pl (mK m) x with
    | (5, _, _, z) => some (vJ z :: st, h)
    | _ => none) = _
  rw [hp]
  rfl
theorem ex_max {u v : Int} (hd : decode (mC m) pc = .ok (.invokestatic x, 3)) (hp : pl (mK m) x = (12, a, b, z)) (hs : ((st.map ct).sum).ble 8 = true) (kk : EX Z d m (pc + 3) ls (vI (imax u v) :: st) M res) : EX Z d m pc ls (vI v :: vI u :: st) M res := by
  refine EX.same (fun _ h hR => ex1_hp (h' := h) (st' := vI (imax u v) :: st) hd rfl rfl rfl ?_) kk
  show (match pl (mK m) x with
    | (9, _, _, _) => hCpy (vI v :: vI u :: st) h
    | (12, _, _, _) => hMax (vI v :: vI u :: st) h
    | (13, _, _, _) => hMin (vI v :: vI u :: st) h
    | _ => none) = _
  rw [hp]
  show (if (st.map ct).sum ≤ 8 then some ((if w32 u < w32 v then .inl v else .inl u) :: st, h) else none) = _
  rw [if_pos (Nat.le_of_ble_eq_true hs)]
  unfold imax
  split <;> rfl
theorem ex_min {u v : Int} (hd : decode (mC m) pc = .ok (.invokestatic x, 3)) (hp : pl (mK m) x = (13, a, b, z)) (hs : ((st.map ct).sum).ble 8 = true) (kk : EX Z d m (pc + 3) ls (vI (imin u v) :: st) M res) : EX Z d m pc ls (vI v :: vI u :: st) M res := by
  refine EX.same (fun _ h hR => ex1_hp (h' := h) (st' := vI (imin u v) :: st) hd rfl rfl rfl ?_) kk
  show (match pl (mK m) x with
    | (9, _, _, _) => hCpy (vI v :: vI u :: st) h
    | (12, _, _, _) => hMax (vI v :: vI u :: st) h
    | (13, _, _, _) => hMin (vI v :: vI u :: st) h
    | _ => none) = _
  rw [hp]
  show (if (st.map ct).sum ≤ 8 then some ((if w32 v < w32 u then .inl v else .inl u) :: st, h) else none) = _
  rw [if_pos (Nat.le_of_ble_eq_true hs)]
  unfold imin
  split <;> rfl
end HpRows
